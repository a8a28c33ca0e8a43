section
-- ===== PART A: goes FIRST, ahead of the names: the tables' words, and 'selects' of the private methods out of them =====
/-- a private method of a class that the tables say can be made, by its rows of tables_1 -/
def lw_okq (q : MethodName × Nat) : Prop := (q.1.cls ≠ "java/lang/invoke/MethodHandle" ∧ q.1.cls ≠ "java/lang/invoke/VarHandle") ∧ Cond.instantiable q.1.cls q.2 ∈ tables_1 ∧ Cond.privateMethod q.1 ∈ tables_1 ∧ Cond.instanceMethod q.1 ∈ tables_1
theorem lw_p0 : lw_okq (⟨"TwoBenches$Sheet", "cut", "(I)I"⟩, 3) := ⟨⟨by decide +kernel, by decide +kernel⟩, List.mem_of_getElem? (i := 231) (by decide +kernel), List.mem_of_getElem? (i := 296) (by decide +kernel), List.mem_of_getElem? (i := 297) (by decide +kernel)⟩
theorem lw_p1 : lw_okq (⟨"TwoBenches$Shop", "note", "(II)V"⟩, 10) := ⟨⟨by decide +kernel, by decide +kernel⟩, List.mem_of_getElem? (i := 24) (by decide +kernel), List.mem_of_getElem? (i := 328) (by decide +kernel), List.mem_of_getElem? (i := 329) (by decide +kernel)⟩
theorem lw_p2 : lw_okq (⟨"TwoBenches", "isRefused", "(II)Z"⟩, 6) := ⟨⟨by decide +kernel, by decide +kernel⟩, List.mem_of_getElem? (i := 14) (by decide +kernel), List.mem_of_getElem? (i := 341) (by decide +kernel), List.mem_of_getElem? (i := 342) (by decide +kernel)⟩
theorem lw_p3 : lw_okq (⟨"TwoBenches", "orderNow", "()LTwoBenches$Order;"⟩, 6) := ⟨⟨by decide +kernel, by decide +kernel⟩, List.mem_of_getElem? (i := 14) (by decide +kernel), List.mem_of_getElem? (i := 345) (by decide +kernel), List.mem_of_getElem? (i := 346) (by decide +kernel)⟩
theorem lw_p4 : lw_okq (⟨"TwoBenches$Order", "findBehind", "()V"⟩, 7) := ⟨⟨by decide +kernel, by decide +kernel⟩, List.mem_of_getElem? (i := 83) (by decide +kernel), List.mem_of_getElem? (i := 353) (by decide +kernel), List.mem_of_getElem? (i := 354) (by decide +kernel)⟩
theorem lw_p5 : lw_okq (⟨"TwoBenches$Order", "findFollowers", "()V"⟩, 7) := ⟨⟨by decide +kernel, by decide +kernel⟩, List.mem_of_getElem? (i := 83) (by decide +kernel), List.mem_of_getElem? (i := 361) (by decide +kernel), List.mem_of_getElem? (i := 362) (by decide +kernel)⟩
theorem lw_p6 : lw_okq (⟨"TwoBenches$Order", "findNexts", "()V"⟩, 7) := ⟨⟨by decide +kernel, by decide +kernel⟩, List.mem_of_getElem? (i := 83) (by decide +kernel), List.mem_of_getElem? (i := 369) (by decide +kernel), List.mem_of_getElem? (i := 370) (by decide +kernel)⟩
theorem lw_p7 : lw_okq (⟨"TwoBenches$Order", "findDepths", "()V"⟩, 7) := ⟨⟨by decide +kernel, by decide +kernel⟩, List.mem_of_getElem? (i := 83) (by decide +kernel), List.mem_of_getElem? (i := 373) (by decide +kernel), List.mem_of_getElem? (i := 374) (by decide +kernel)⟩
theorem lw_p8 : lw_okq (⟨"TwoBenches$Ring", "measure", "(I)V"⟩, 4) := ⟨⟨by decide +kernel, by decide +kernel⟩, List.mem_of_getElem? (i := 213) (by decide +kernel), List.mem_of_getElem? (i := 387) (by decide +kernel), List.mem_of_getElem? (i := 388) (by decide +kernel)⟩
theorem lw_p9 : lw_okq (⟨"TwoBenches$Ring", "firstNearer", "(II)I"⟩, 4) := ⟨⟨by decide +kernel, by decide +kernel⟩, List.mem_of_getElem? (i := 213) (by decide +kernel), List.mem_of_getElem? (i := 394) (by decide +kernel), List.mem_of_getElem? (i := 395) (by decide +kernel)⟩
theorem lw_p10 : lw_okq (⟨"TwoBenches", "readPlaces", "(ILTwoBenches$Sheet;II)I"⟩, 6) := ⟨⟨by decide +kernel, by decide +kernel⟩, List.mem_of_getElem? (i := 14) (by decide +kernel), List.mem_of_getElem? (i := 413) (by decide +kernel), List.mem_of_getElem? (i := 414) (by decide +kernel)⟩
theorem lw_p11 : lw_okq (⟨"TwoBenches", "labelDayNow", "()LTwoBenches$LabelDay;"⟩, 6) := ⟨⟨by decide +kernel, by decide +kernel⟩, List.mem_of_getElem? (i := 14) (by decide +kernel), List.mem_of_getElem? (i := 446) (by decide +kernel), List.mem_of_getElem? (i := 447) (by decide +kernel)⟩
theorem lw_p12 : lw_okq (⟨"TwoBenches$LabelDay", "giveLabels", "()V"⟩, 10) := ⟨⟨by decide +kernel, by decide +kernel⟩, List.mem_of_getElem? (i := 119) (by decide +kernel), List.mem_of_getElem? (i := 455) (by decide +kernel), List.mem_of_getElem? (i := 456) (by decide +kernel)⟩
theorem lw_p13 : lw_okq (⟨"TwoBenches$LabelDay", "firstByRow", "(I)I"⟩, 10) := ⟨⟨by decide +kernel, by decide +kernel⟩, List.mem_of_getElem? (i := 119) (by decide +kernel), List.mem_of_getElem? (i := 460) (by decide +kernel), List.mem_of_getElem? (i := 461) (by decide +kernel)⟩
theorem lw_p14 : lw_okq (⟨"TwoBenches$LabelDay", "tellLabel", "(II)V"⟩, 10) := ⟨⟨by decide +kernel, by decide +kernel⟩, List.mem_of_getElem? (i := 119) (by decide +kernel), List.mem_of_getElem? (i := 467) (by decide +kernel), List.mem_of_getElem? (i := 468) (by decide +kernel)⟩
theorem lw_p15 : lw_okq (⟨"TwoBenches$LabelDay", "fillHours", "()V"⟩, 10) := ⟨⟨by decide +kernel, by decide +kernel⟩, List.mem_of_getElem? (i := 119) (by decide +kernel), List.mem_of_getElem? (i := 471) (by decide +kernel), List.mem_of_getElem? (i := 472) (by decide +kernel)⟩
def lw_privs_1 : List (MethodName × Nat) := [(⟨"TwoBenches$Sheet", "cut", "(I)I"⟩, 3), (⟨"TwoBenches$Shop", "note", "(II)V"⟩, 10), (⟨"TwoBenches", "isRefused", "(II)Z"⟩, 6), (⟨"TwoBenches", "orderNow", "()LTwoBenches$Order;"⟩, 6), (⟨"TwoBenches$Order", "findBehind", "()V"⟩, 7), (⟨"TwoBenches$Order", "findFollowers", "()V"⟩, 7), (⟨"TwoBenches$Order", "findNexts", "()V"⟩, 7), (⟨"TwoBenches$Order", "findDepths", "()V"⟩, 7), (⟨"TwoBenches$Ring", "measure", "(I)V"⟩, 4), (⟨"TwoBenches$Ring", "firstNearer", "(II)I"⟩, 4), (⟨"TwoBenches", "readPlaces", "(ILTwoBenches$Sheet;II)I"⟩, 6), (⟨"TwoBenches", "labelDayNow", "()LTwoBenches$LabelDay;"⟩, 6), (⟨"TwoBenches$LabelDay", "giveLabels", "()V"⟩, 10), (⟨"TwoBenches$LabelDay", "firstByRow", "(I)I"⟩, 10), (⟨"TwoBenches$LabelDay", "tellLabel", "(II)V"⟩, 10), (⟨"TwoBenches$LabelDay", "fillHours", "()V"⟩, 10)]
theorem lw_r1 : ∀ q ∈ lw_privs_1, lw_okq q := List.forall_mem_cons.mpr ⟨lw_p0, List.forall_mem_cons.mpr ⟨lw_p1, List.forall_mem_cons.mpr ⟨lw_p2, List.forall_mem_cons.mpr ⟨lw_p3, List.forall_mem_cons.mpr ⟨lw_p4, List.forall_mem_cons.mpr ⟨lw_p5, List.forall_mem_cons.mpr ⟨lw_p6, List.forall_mem_cons.mpr ⟨lw_p7, List.forall_mem_cons.mpr ⟨lw_p8, List.forall_mem_cons.mpr ⟨lw_p9, List.forall_mem_cons.mpr ⟨lw_p10, List.forall_mem_cons.mpr ⟨lw_p11, List.forall_mem_cons.mpr ⟨lw_p12, List.forall_mem_cons.mpr ⟨lw_p13, List.forall_mem_cons.mpr ⟨lw_p14, List.forall_mem_cons.mpr ⟨lw_p15, fun _ h => absurd h List.not_mem_nil⟩⟩⟩⟩⟩⟩⟩⟩⟩⟩⟩⟩⟩⟩⟩⟩
theorem lw_p16 : lw_okq (⟨"TwoBenches$LabelDay", "greatestReady", "(II)I"⟩, 10) := ⟨⟨by decide +kernel, by decide +kernel⟩, List.mem_of_getElem? (i := 119) (by decide +kernel), List.mem_of_getElem? (i := 476) (by decide +kernel), List.mem_of_getElem? (i := 477) (by decide +kernel)⟩
theorem lw_p17 : lw_okq (⟨"TwoBenches$LabelDay", "place", "(II)I"⟩, 10) := ⟨⟨by decide +kernel, by decide +kernel⟩, List.mem_of_getElem? (i := 119) (by decide +kernel), List.mem_of_getElem? (i := 480) (by decide +kernel), List.mem_of_getElem? (i := 481) (by decide +kernel)⟩
theorem lw_p18 : lw_okq (⟨"TwoBenches", "keptDayNow", "()LTwoBenches$KeptDay;"⟩, 6) := ⟨⟨by decide +kernel, by decide +kernel⟩, List.mem_of_getElem? (i := 14) (by decide +kernel), List.mem_of_getElem? (i := 484) (by decide +kernel), List.mem_of_getElem? (i := 485) (by decide +kernel)⟩
theorem lw_p19 : lw_okq (⟨"TwoBenches$KeptDay", "listBlocks", "()V"⟩, 14) := ⟨⟨by decide +kernel, by decide +kernel⟩, List.mem_of_getElem? (i := 161) (by decide +kernel), List.mem_of_getElem? (i := 493) (by decide +kernel), List.mem_of_getElem? (i := 494) (by decide +kernel)⟩
theorem lw_p20 : lw_okq (⟨"TwoBenches$KeptDay", "lesserTwins", "(I)I"⟩, 14) := ⟨⟨by decide +kernel, by decide +kernel⟩, List.mem_of_getElem? (i := 161) (by decide +kernel), List.mem_of_getElem? (i := 497) (by decide +kernel), List.mem_of_getElem? (i := 498) (by decide +kernel)⟩
theorem lw_p21 : lw_okq (⟨"TwoBenches$KeptDay", "addBlock", "(IIII)V"⟩, 14) := ⟨⟨by decide +kernel, by decide +kernel⟩, List.mem_of_getElem? (i := 161) (by decide +kernel), List.mem_of_getElem? (i := 518) (by decide +kernel), List.mem_of_getElem? (i := 519) (by decide +kernel)⟩
theorem lw_p22 : lw_okq (⟨"TwoBenches$KeptDay", "findSoonest", "()V"⟩, 14) := ⟨⟨by decide +kernel, by decide +kernel⟩, List.mem_of_getElem? (i := 161) (by decide +kernel), List.mem_of_getElem? (i := 528) (by decide +kernel), List.mem_of_getElem? (i := 529) (by decide +kernel)⟩
theorem lw_p23 : lw_okq (⟨"TwoBenches$KeptDay", "goOnFrom", "(I)V"⟩, 14) := ⟨⟨by decide +kernel, by decide +kernel⟩, List.mem_of_getElem? (i := 161) (by decide +kernel), List.mem_of_getElem? (i := 533) (by decide +kernel), List.mem_of_getElem? (i := 534) (by decide +kernel)⟩
theorem lw_p24 : lw_okq (⟨"TwoBenches$KeptDay", "findLatest", "()V"⟩, 14) := ⟨⟨by decide +kernel, by decide +kernel⟩, List.mem_of_getElem? (i := 161) (by decide +kernel), List.mem_of_getElem? (i := 538) (by decide +kernel), List.mem_of_getElem? (i := 539) (by decide +kernel)⟩
theorem lw_p25 : lw_okq (⟨"TwoBenches$KeptDay", "latestFor", "(I)I"⟩, 14) := ⟨⟨by decide +kernel, by decide +kernel⟩, List.mem_of_getElem? (i := 161) (by decide +kernel), List.mem_of_getElem? (i := 542) (by decide +kernel), List.mem_of_getElem? (i := 543) (by decide +kernel)⟩
theorem lw_p26 : lw_okq (⟨"TwoBenches$KeptDay", "fillHours", "()V"⟩, 14) := ⟨⟨by decide +kernel, by decide +kernel⟩, List.mem_of_getElem? (i := 161) (by decide +kernel), List.mem_of_getElem? (i := 546) (by decide +kernel), List.mem_of_getElem? (i := 547) (by decide +kernel)⟩
theorem lw_p27 : lw_okq (⟨"TwoBenches$KeptDay", "leastCode", "(II)I"⟩, 14) := ⟨⟨by decide +kernel, by decide +kernel⟩, List.mem_of_getElem? (i := 161) (by decide +kernel), List.mem_of_getElem? (i := 550) (by decide +kernel), List.mem_of_getElem? (i := 551) (by decide +kernel)⟩
theorem lw_p28 : lw_okq (⟨"TwoBenches$KeptDay", "place", "(II)I"⟩, 14) := ⟨⟨by decide +kernel, by decide +kernel⟩, List.mem_of_getElem? (i := 161) (by decide +kernel), List.mem_of_getElem? (i := 554) (by decide +kernel), List.mem_of_getElem? (i := 555) (by decide +kernel)⟩
theorem lw_p29 : lw_okq (⟨"TwoBenches", "isDay", "(J)Z"⟩, 6) := ⟨⟨by decide +kernel, by decide +kernel⟩, List.mem_of_getElem? (i := 14) (by decide +kernel), List.mem_of_getElem? (i := 603) (by decide +kernel), List.mem_of_getElem? (i := 604) (by decide +kernel)⟩
theorem lw_p30 : lw_okq (⟨"TwoBenches", "keepsToKinds", "(J)Z"⟩, 6) := ⟨⟨by decide +kernel, by decide +kernel⟩, List.mem_of_getElem? (i := 14) (by decide +kernel), List.mem_of_getElem? (i := 610) (by decide +kernel), List.mem_of_getElem? (i := 611) (by decide +kernel)⟩
theorem lw_p31 : lw_okq (⟨"TwoBenchesModel", "against", "(II)I"⟩, 28) := ⟨⟨by decide +kernel, by decide +kernel⟩, List.mem_of_getElem? (i := 627) (by decide +kernel), List.mem_of_getElem? (i := 736) (by decide +kernel), List.mem_of_getElem? (i := 737) (by decide +kernel)⟩
def lw_privs_2 : List (MethodName × Nat) := [(⟨"TwoBenches$LabelDay", "greatestReady", "(II)I"⟩, 10), (⟨"TwoBenches$LabelDay", "place", "(II)I"⟩, 10), (⟨"TwoBenches", "keptDayNow", "()LTwoBenches$KeptDay;"⟩, 6), (⟨"TwoBenches$KeptDay", "listBlocks", "()V"⟩, 14), (⟨"TwoBenches$KeptDay", "lesserTwins", "(I)I"⟩, 14), (⟨"TwoBenches$KeptDay", "addBlock", "(IIII)V"⟩, 14), (⟨"TwoBenches$KeptDay", "findSoonest", "()V"⟩, 14), (⟨"TwoBenches$KeptDay", "goOnFrom", "(I)V"⟩, 14), (⟨"TwoBenches$KeptDay", "findLatest", "()V"⟩, 14), (⟨"TwoBenches$KeptDay", "latestFor", "(I)I"⟩, 14), (⟨"TwoBenches$KeptDay", "fillHours", "()V"⟩, 14), (⟨"TwoBenches$KeptDay", "leastCode", "(II)I"⟩, 14), (⟨"TwoBenches$KeptDay", "place", "(II)I"⟩, 14), (⟨"TwoBenches", "isDay", "(J)Z"⟩, 6), (⟨"TwoBenches", "keepsToKinds", "(J)Z"⟩, 6), (⟨"TwoBenchesModel", "against", "(II)I"⟩, 28)]
theorem lw_r2 : ∀ q ∈ lw_privs_2, lw_okq q := List.forall_mem_cons.mpr ⟨lw_p16, List.forall_mem_cons.mpr ⟨lw_p17, List.forall_mem_cons.mpr ⟨lw_p18, List.forall_mem_cons.mpr ⟨lw_p19, List.forall_mem_cons.mpr ⟨lw_p20, List.forall_mem_cons.mpr ⟨lw_p21, List.forall_mem_cons.mpr ⟨lw_p22, List.forall_mem_cons.mpr ⟨lw_p23, List.forall_mem_cons.mpr ⟨lw_p24, List.forall_mem_cons.mpr ⟨lw_p25, List.forall_mem_cons.mpr ⟨lw_p26, List.forall_mem_cons.mpr ⟨lw_p27, List.forall_mem_cons.mpr ⟨lw_p28, List.forall_mem_cons.mpr ⟨lw_p29, List.forall_mem_cons.mpr ⟨lw_p30, List.forall_mem_cons.mpr ⟨lw_p31, fun _ h => absurd h List.not_mem_nil⟩⟩⟩⟩⟩⟩⟩⟩⟩⟩⟩⟩⟩⟩⟩⟩
theorem lw_p32 : lw_okq (⟨"TwoBenchesModel", "keep", "()V"⟩, 28) := ⟨⟨by decide +kernel, by decide +kernel⟩, List.mem_of_getElem? (i := 627) (by decide +kernel), List.mem_of_getElem? (i := 762) (by decide +kernel), List.mem_of_getElem? (i := 763) (by decide +kernel)⟩
theorem lw_p33 : lw_okq (⟨"TwoBenchesModel", "isJob", "(I)Z"⟩, 28) := ⟨⟨by decide +kernel, by decide +kernel⟩, List.mem_of_getElem? (i := 627) (by decide +kernel), List.mem_of_getElem? (i := 770) (by decide +kernel), List.mem_of_getElem? (i := 771) (by decide +kernel)⟩
theorem lw_p34 : lw_okq (⟨"TwoBenchesModel", "wouldRing", "(II)Z"⟩, 28) := ⟨⟨by decide +kernel, by decide +kernel⟩, List.mem_of_getElem? (i := 627) (by decide +kernel), List.mem_of_getElem? (i := 774) (by decide +kernel), List.mem_of_getElem? (i := 775) (by decide +kernel)⟩
theorem lw_p35 : lw_okq (⟨"TwoBenchesModel", "layBehind", "()V"⟩, 28) := ⟨⟨by decide +kernel, by decide +kernel⟩, List.mem_of_getElem? (i := 627) (by decide +kernel), List.mem_of_getElem? (i := 778) (by decide +kernel), List.mem_of_getElem? (i := 779) (by decide +kernel)⟩
theorem lw_p36 : lw_okq (⟨"TwoBenchesModel", "isBehind", "(II)Z"⟩, 28) := ⟨⟨by decide +kernel, by decide +kernel⟩, List.mem_of_getElem? (i := 627) (by decide +kernel), List.mem_of_getElem? (i := 782) (by decide +kernel), List.mem_of_getElem? (i := 783) (by decide +kernel)⟩
theorem lw_p37 : lw_okq (⟨"TwoBenchesModel", "layRing", "(II)V"⟩, 28) := ⟨⟨by decide +kernel, by decide +kernel⟩, List.mem_of_getElem? (i := 627) (by decide +kernel), List.mem_of_getElem? (i := 786) (by decide +kernel), List.mem_of_getElem? (i := 787) (by decide +kernel)⟩
theorem lw_p38 : lw_okq (⟨"TwoBenchesModel", "behindOf", "(I)I"⟩, 28) := ⟨⟨by decide +kernel, by decide +kernel⟩, List.mem_of_getElem? (i := 627) (by decide +kernel), List.mem_of_getElem? (i := 810) (by decide +kernel), List.mem_of_getElem? (i := 811) (by decide +kernel)⟩
theorem lw_p39 : lw_okq (⟨"TwoBenchesModel", "all", "()I"⟩, 28) := ⟨⟨by decide +kernel, by decide +kernel⟩, List.mem_of_getElem? (i := 627) (by decide +kernel), List.mem_of_getElem? (i := 814) (by decide +kernel), List.mem_of_getElem? (i := 815) (by decide +kernel)⟩
theorem lw_p40 : lw_okq (⟨"TwoBenchesModel", "nextOf", "(II)I"⟩, 28) := ⟨⟨by decide +kernel, by decide +kernel⟩, List.mem_of_getElem? (i := 627) (by decide +kernel), List.mem_of_getElem? (i := 818) (by decide +kernel), List.mem_of_getElem? (i := 819) (by decide +kernel)⟩
theorem lw_p41 : lw_okq (⟨"TwoBenchesModel", "layDepths", "()V"⟩, 28) := ⟨⟨by decide +kernel, by decide +kernel⟩, List.mem_of_getElem? (i := 627) (by decide +kernel), List.mem_of_getElem? (i := 822) (by decide +kernel), List.mem_of_getElem? (i := 823) (by decide +kernel)⟩
theorem lw_p42 : lw_okq (⟨"TwoBenchesModel", "depthOf", "(I[I)I"⟩, 28) := ⟨⟨by decide +kernel, by decide +kernel⟩, List.mem_of_getElem? (i := 627) (by decide +kernel), List.mem_of_getElem? (i := 826) (by decide +kernel), List.mem_of_getElem? (i := 827) (by decide +kernel)⟩
theorem lw_p43 : lw_okq (⟨"TwoBenchesModel", "layDay", "(I)V"⟩, 28) := ⟨⟨by decide +kernel, by decide +kernel⟩, List.mem_of_getElem? (i := 627) (by decide +kernel), List.mem_of_getElem? (i := 830) (by decide +kernel), List.mem_of_getElem? (i := 831) (by decide +kernel)⟩
theorem lw_p44 : lw_okq (⟨"TwoBenchesModel", "layLabels", "(I)V"⟩, 28) := ⟨⟨by decide +kernel, by decide +kernel⟩, List.mem_of_getElem? (i := 627) (by decide +kernel), List.mem_of_getElem? (i := 834) (by decide +kernel), List.mem_of_getElem? (i := 835) (by decide +kernel)⟩
theorem lw_p45 : lw_okq (⟨"TwoBenchesModel", "rowOf", "(I)I"⟩, 28) := ⟨⟨by decide +kernel, by decide +kernel⟩, List.mem_of_getElem? (i := 627) (by decide +kernel), List.mem_of_getElem? (i := 838) (by decide +kernel), List.mem_of_getElem? (i := 839) (by decide +kernel)⟩
theorem lw_p46 : lw_okq (⟨"TwoBenchesModel", "greatest", "(II)I"⟩, 28) := ⟨⟨by decide +kernel, by decide +kernel⟩, List.mem_of_getElem? (i := 627) (by decide +kernel), List.mem_of_getElem? (i := 842) (by decide +kernel), List.mem_of_getElem? (i := 843) (by decide +kernel)⟩
theorem lw_p47 : lw_okq (⟨"TwoBenchesModel", "layKept", "()V"⟩, 28) := ⟨⟨by decide +kernel, by decide +kernel⟩, List.mem_of_getElem? (i := 627) (by decide +kernel), List.mem_of_getElem? (i := 846) (by decide +kernel), List.mem_of_getElem? (i := 847) (by decide +kernel)⟩
def lw_privs_3 : List (MethodName × Nat) := [(⟨"TwoBenchesModel", "keep", "()V"⟩, 28), (⟨"TwoBenchesModel", "isJob", "(I)Z"⟩, 28), (⟨"TwoBenchesModel", "wouldRing", "(II)Z"⟩, 28), (⟨"TwoBenchesModel", "layBehind", "()V"⟩, 28), (⟨"TwoBenchesModel", "isBehind", "(II)Z"⟩, 28), (⟨"TwoBenchesModel", "layRing", "(II)V"⟩, 28), (⟨"TwoBenchesModel", "behindOf", "(I)I"⟩, 28), (⟨"TwoBenchesModel", "all", "()I"⟩, 28), (⟨"TwoBenchesModel", "nextOf", "(II)I"⟩, 28), (⟨"TwoBenchesModel", "layDepths", "()V"⟩, 28), (⟨"TwoBenchesModel", "depthOf", "(I[I)I"⟩, 28), (⟨"TwoBenchesModel", "layDay", "(I)V"⟩, 28), (⟨"TwoBenchesModel", "layLabels", "(I)V"⟩, 28), (⟨"TwoBenchesModel", "rowOf", "(I)I"⟩, 28), (⟨"TwoBenchesModel", "greatest", "(II)I"⟩, 28), (⟨"TwoBenchesModel", "layKept", "()V"⟩, 28)]
theorem lw_r3 : ∀ q ∈ lw_privs_3, lw_okq q := List.forall_mem_cons.mpr ⟨lw_p32, List.forall_mem_cons.mpr ⟨lw_p33, List.forall_mem_cons.mpr ⟨lw_p34, List.forall_mem_cons.mpr ⟨lw_p35, List.forall_mem_cons.mpr ⟨lw_p36, List.forall_mem_cons.mpr ⟨lw_p37, List.forall_mem_cons.mpr ⟨lw_p38, List.forall_mem_cons.mpr ⟨lw_p39, List.forall_mem_cons.mpr ⟨lw_p40, List.forall_mem_cons.mpr ⟨lw_p41, List.forall_mem_cons.mpr ⟨lw_p42, List.forall_mem_cons.mpr ⟨lw_p43, List.forall_mem_cons.mpr ⟨lw_p44, List.forall_mem_cons.mpr ⟨lw_p45, List.forall_mem_cons.mpr ⟨lw_p46, List.forall_mem_cons.mpr ⟨lw_p47, fun _ h => absurd h List.not_mem_nil⟩⟩⟩⟩⟩⟩⟩⟩⟩⟩⟩⟩⟩⟩⟩⟩
theorem lw_p48 : lw_okq (⟨"TwoBenchesModel", "bestOf", "(II)I"⟩, 28) := ⟨⟨by decide +kernel, by decide +kernel⟩, List.mem_of_getElem? (i := 627) (by decide +kernel), List.mem_of_getElem? (i := 851) (by decide +kernel), List.mem_of_getElem? (i := 852) (by decide +kernel)⟩
theorem lw_p49 : lw_okq (⟨"TwoBenchesModel", "may", "(III)Z"⟩, 28) := ⟨⟨by decide +kernel, by decide +kernel⟩, List.mem_of_getElem? (i := 627) (by decide +kernel), List.mem_of_getElem? (i := 855) (by decide +kernel), List.mem_of_getElem? (i := 856) (by decide +kernel)⟩
theorem lw_p50 : lw_okq (⟨"TwoBenchesModel", "may2", "(II)Z"⟩, 28) := ⟨⟨by decide +kernel, by decide +kernel⟩, List.mem_of_getElem? (i := 627) (by decide +kernel), List.mem_of_getElem? (i := 859) (by decide +kernel), List.mem_of_getElem? (i := 860) (by decide +kernel)⟩
theorem lw_p51 : lw_okq (⟨"TwoBenchesModel", "inHour", "(I)I"⟩, 28) := ⟨⟨by decide +kernel, by decide +kernel⟩, List.mem_of_getElem? (i := 627) (by decide +kernel), List.mem_of_getElem? (i := 878) (by decide +kernel), List.mem_of_getElem? (i := 879) (by decide +kernel)⟩
def lw_privs_4 : List (MethodName × Nat) := [(⟨"TwoBenchesModel", "bestOf", "(II)I"⟩, 28), (⟨"TwoBenchesModel", "may", "(III)Z"⟩, 28), (⟨"TwoBenchesModel", "may2", "(II)Z"⟩, 28), (⟨"TwoBenchesModel", "inHour", "(I)I"⟩, 28)]
theorem lw_r4 : ∀ q ∈ lw_privs_4, lw_okq q := List.forall_mem_cons.mpr ⟨lw_p48, List.forall_mem_cons.mpr ⟨lw_p49, List.forall_mem_cons.mpr ⟨lw_p50, List.forall_mem_cons.mpr ⟨lw_p51, fun _ h => absurd h List.not_mem_nil⟩⟩⟩⟩
def lw_privs : List (MethodName × Nat) := lw_privs_1 ++ (lw_privs_2 ++ (lw_privs_3 ++ (lw_privs_4)))
def lw_tbl : List Cond := k2_sels lw_privs ++ tables_1
theorem lw_privs_ok : ∀ q ∈ lw_privs, lw_okq q := by
  show ∀ q ∈ lw_privs_1 ++ (lw_privs_2 ++ (lw_privs_3 ++ (lw_privs_4))), lw_okq q
  exact List.forall_mem_append.mpr ⟨lw_r1, List.forall_mem_append.mpr ⟨lw_r2, List.forall_mem_append.mpr ⟨lw_r3, lw_r4⟩⟩⟩
end
section
def RX0 : String := "TwoBenches$KeptDay"
def TX0 : u_T := fun k => match k with
  | 0 => ("TwoBenches$KeptDay", "codes", "[I", true)
  | 1 => ("TwoBenches$KeptDay", "hours", "[I", true)
  | 2 => ("TwoBenches$KeptDay", "length", "I", false)
  | 3 => ("TwoBenches$KeptDay", "shop", "LTwoBenches$Shop;", true)
  | 4 => ("TwoBenches$KeptDay", "order", "LTwoBenches$Order;", true)
  | 5 => ("TwoBenches$KeptDay", "blockNeeds", "[I", true)
  | 6 => ("TwoBenches$KeptDay", "blockSums", "[I", true)
  | 7 => ("TwoBenches$KeptDay", "blockBegins", "[I", true)
  | 8 => ("TwoBenches$KeptDay", "blockEnds", "[I", true)
  | 9 => ("TwoBenches$KeptDay", "blockCodes", "[I", true)
  | 10 => ("TwoBenches$KeptDay", "blocks", "I", false)
  | 11 => ("TwoBenches$KeptDay", "soonest", "[I", true)
  | 12 => ("TwoBenches$KeptDay", "latest", "[I", true)
  | _ => ("TwoBenches$KeptDay", "madeFor", "I", false)
def tyX0 : Nat → FieldType := fun k => match k with
  | 0 => .array .int
  | 1 => .array .int
  | 2 => .int
  | 3 => .object "TwoBenches$Shop"
  | 4 => .object "TwoBenches$Order"
  | 5 => .array .int
  | 6 => .array .int
  | 7 => .array .int
  | 8 => .array .int
  | 9 => .array .int
  | 10 => .int
  | 11 => .array .int
  | 12 => .array .int
  | _ => .int
theorem nmX0 : ∀ a, a < 14 → ∀ b, b < 14 → a ≠ b → (TX0 a).2.1 ≠ (TX0 b).2.1 := by decide +kernel
theorem tyX0_ok : ∀ k, k < 14 → parseFieldDescriptor (TX0 k).2.2.1 = some (tyX0 k) := by decide +kernel
abbrev cX0_init : ByteArray := prog_2_method_1_code
def yX0_init : MethodName := ⟨RX0, "<init>", "(LTwoBenches$Shop;LTwoBenches$Order;)V"⟩
abbrev cX0_renew : ByteArray := prog_2_method_2_code
def yX0_renew : MethodName := ⟨RX0, "renew", "()V"⟩
abbrev cX0_listBlocks : ByteArray := prog_2_method_3_code
def yX0_listBlocks : MethodName := ⟨RX0, "listBlocks", "()V"⟩
abbrev cX0_lesserTwins : ByteArray := prog_2_method_4_code
def yX0_lesserTwins : MethodName := ⟨RX0, "lesserTwins", "(I)I"⟩
abbrev cX0_addBlock : ByteArray := prog_2_method_5_code
def yX0_addBlock : MethodName := ⟨RX0, "addBlock", "(IIII)V"⟩
abbrev cX0_findSoonest : ByteArray := prog_2_method_6_code
def yX0_findSoonest : MethodName := ⟨RX0, "findSoonest", "()V"⟩
abbrev cX0_goOnFrom : ByteArray := prog_2_method_7_code
def yX0_goOnFrom : MethodName := ⟨RX0, "goOnFrom", "(I)V"⟩
abbrev cX0_findLatest : ByteArray := prog_2_method_8_code
def yX0_findLatest : MethodName := ⟨RX0, "findLatest", "()V"⟩
abbrev cX0_latestFor : ByteArray := prog_2_method_9_code
def yX0_latestFor : MethodName := ⟨RX0, "latestFor", "(I)I"⟩
abbrev cX0_fillHours : ByteArray := prog_2_method_10_code
def yX0_fillHours : MethodName := ⟨RX0, "fillHours", "()V"⟩
abbrev cX0_leastCode : ByteArray := prog_2_method_11_code
def yX0_leastCode : MethodName := ⟨RX0, "leastCode", "(II)I"⟩
abbrev cX0_place : ByteArray := prog_2_method_12_code
def yX0_place : MethodName := ⟨RX0, "place", "(II)I"⟩
def RX1 : String := "TwoBenches$LabelDay"
def TX1 : u_T := fun k => match k with
  | 0 => ("TwoBenches$LabelDay", "labels", "[I", true)
  | 1 => ("TwoBenches$LabelDay", "hours", "[I", true)
  | 2 => ("TwoBenches$LabelDay", "firsts", "[I", true)
  | 3 => ("TwoBenches$LabelDay", "seconds", "[I", true)
  | 4 => ("TwoBenches$LabelDay", "length", "I", false)
  | 5 => ("TwoBenches$LabelDay", "shop", "LTwoBenches$Shop;", true)
  | 6 => ("TwoBenches$LabelDay", "order", "LTwoBenches$Order;", true)
  | 7 => ("TwoBenches$LabelDay", "jobOfLabel", "[I", true)
  | 8 => ("TwoBenches$LabelDay", "rows", "[I", true)
  | _ => ("TwoBenches$LabelDay", "madeFor", "I", false)
def tyX1 : Nat → FieldType := fun k => match k with
  | 0 => .array .int
  | 1 => .array .int
  | 2 => .array .int
  | 3 => .array .int
  | 4 => .int
  | 5 => .object "TwoBenches$Shop"
  | 6 => .object "TwoBenches$Order"
  | 7 => .array .int
  | 8 => .array .int
  | _ => .int
theorem nmX1 : ∀ a, a < 10 → ∀ b, b < 10 → a ≠ b → (TX1 a).2.1 ≠ (TX1 b).2.1 := by decide +kernel
theorem tyX1_ok : ∀ k, k < 10 → parseFieldDescriptor (TX1 k).2.2.1 = some (tyX1 k) := by decide +kernel
abbrev cX1_init : ByteArray := prog_3_method_1_code
def yX1_init : MethodName := ⟨RX1, "<init>", "(LTwoBenches$Shop;LTwoBenches$Order;)V"⟩
abbrev cX1_renew : ByteArray := prog_3_method_2_code
def yX1_renew : MethodName := ⟨RX1, "renew", "()V"⟩
abbrev cX1_idleHour : ByteArray := prog_3_method_3_code
def yX1_idleHour : MethodName := ⟨RX1, "idleHour", "(I)I"⟩
abbrev cX1_countIdle : ByteArray := prog_3_method_4_code
def yX1_countIdle : MethodName := ⟨RX1, "countIdle", "()I"⟩
abbrev cX1_giveLabels : ByteArray := prog_3_method_5_code
def yX1_giveLabels : MethodName := ⟨RX1, "giveLabels", "()V"⟩
abbrev cX1_firstByRow : ByteArray := prog_3_method_6_code
def yX1_firstByRow : MethodName := ⟨RX1, "firstByRow", "(I)I"⟩
abbrev cX1_tellLabel : ByteArray := prog_3_method_7_code
def yX1_tellLabel : MethodName := ⟨RX1, "tellLabel", "(II)V"⟩
abbrev cX1_fillHours : ByteArray := prog_3_method_8_code
def yX1_fillHours : MethodName := ⟨RX1, "fillHours", "()V"⟩
abbrev cX1_greatestReady : ByteArray := prog_3_method_9_code
def yX1_greatestReady : MethodName := ⟨RX1, "greatestReady", "(II)I"⟩
abbrev cX1_place : ByteArray := prog_3_method_10_code
def yX1_place : MethodName := ⟨RX1, "place", "(II)I"⟩
def RX2 : String := "TwoBenches$Order"
def TX2 : u_T := fun k => match k with
  | 0 => ("TwoBenches$Order", "behind", "[I", true)
  | 1 => ("TwoBenches$Order", "followers", "[I", true)
  | 2 => ("TwoBenches$Order", "nexts", "[I", true)
  | 3 => ("TwoBenches$Order", "depths", "[I", true)
  | 4 => ("TwoBenches$Order", "greatestDepth", "I", false)
  | 5 => ("TwoBenches$Order", "shop", "LTwoBenches$Shop;", true)
  | _ => ("TwoBenches$Order", "madeFor", "I", false)
def tyX2 : Nat → FieldType := fun k => match k with
  | 0 => .array .int
  | 1 => .array .int
  | 2 => .array .int
  | 3 => .array .int
  | 4 => .int
  | 5 => .object "TwoBenches$Shop"
  | _ => .int
theorem nmX2 : ∀ a, a < 7 → ∀ b, b < 7 → a ≠ b → (TX2 a).2.1 ≠ (TX2 b).2.1 := by decide +kernel
theorem tyX2_ok : ∀ k, k < 7 → parseFieldDescriptor (TX2 k).2.2.1 = some (tyX2 k) := by decide +kernel
abbrev cX2_init : ByteArray := prog_4_method_1_code
def yX2_init : MethodName := ⟨RX2, "<init>", "(LTwoBenches$Shop;)V"⟩
abbrev cX2_renew : ByteArray := prog_4_method_2_code
def yX2_renew : MethodName := ⟨RX2, "renew", "()V"⟩
abbrev cX2_areApart : ByteArray := prog_4_method_3_code
def yX2_areApart : MethodName := ⟨RX2, "areApart", "(II)Z"⟩
abbrev cX2_areTwins : ByteArray := prog_4_method_4_code
def yX2_areTwins : MethodName := ⟨RX2, "areTwins", "(II)Z"⟩
abbrev cX2_findBehind : ByteArray := prog_4_method_5_code
def yX2_findBehind : MethodName := ⟨RX2, "findBehind", "()V"⟩
abbrev cX2_findFollowers : ByteArray := prog_4_method_6_code
def yX2_findFollowers : MethodName := ⟨RX2, "findFollowers", "()V"⟩
abbrev cX2_findNexts : ByteArray := prog_4_method_7_code
def yX2_findNexts : MethodName := ⟨RX2, "findNexts", "()V"⟩
abbrev cX2_findDepths : ByteArray := prog_4_method_8_code
def yX2_findDepths : MethodName := ⟨RX2, "findDepths", "()V"⟩
def RX3 : String := "TwoBenches$Ring"
def TX3 : u_T := fun k => match k with
  | 0 => ("TwoBenches$Ring", "shop", "LTwoBenches$Shop;", true)
  | 1 => ("TwoBenches$Ring", "row", "[I", true)
  | 2 => ("TwoBenches$Ring", "steps", "[I", true)
  | _ => ("TwoBenches$Ring", "size", "I", false)
def tyX3 : Nat → FieldType := fun k => match k with
  | 0 => .object "TwoBenches$Shop"
  | 1 => .array .int
  | 2 => .array .int
  | _ => .int
theorem nmX3 : ∀ a, a < 4 → ∀ b, b < 4 → a ≠ b → (TX3 a).2.1 ≠ (TX3 b).2.1 := by decide +kernel
theorem tyX3_ok : ∀ k, k < 4 → parseFieldDescriptor (TX3 k).2.2.1 = some (tyX3 k) := by decide +kernel
abbrev cX3_init : ByteArray := prog_5_method_1_code
def yX3_init : MethodName := ⟨RX3, "<init>", "(LTwoBenches$Shop;)V"⟩
abbrev cX3_jobAt : ByteArray := prog_5_method_2_code
def yX3_jobAt : MethodName := ⟨RX3, "jobAt", "(I)I"⟩
abbrev cX3_close : ByteArray := prog_5_method_3_code
def yX3_close : MethodName := ⟨RX3, "close", "(II)V"⟩
abbrev cX3_measure : ByteArray := prog_5_method_4_code
def yX3_measure : MethodName := ⟨RX3, "measure", "(I)V"⟩
abbrev cX3_firstNearer : ByteArray := prog_5_method_5_code
def yX3_firstNearer : MethodName := ⟨RX3, "firstNearer", "(II)I"⟩
def RX4 : String := "TwoBenches$Sheet"
def TX4 : u_T := fun k => match k with
  | 0 => ("TwoBenches$Sheet", "row", "[I", true)
  | 1 => ("TwoBenches$Sheet", "kind", "I", false)
  | _ => ("TwoBenches$Sheet", "size", "I", false)
def tyX4 : Nat → FieldType := fun k => match k with
  | 0 => .array .int
  | 1 => .int
  | _ => .int
theorem nmX4 : ∀ a, a < 3 → ∀ b, b < 3 → a ≠ b → (TX4 a).2.1 ≠ (TX4 b).2.1 := by decide +kernel
theorem tyX4_ok : ∀ k, k < 3 → parseFieldDescriptor (TX4 k).2.2.1 = some (tyX4 k) := by decide +kernel
abbrev cX4_init : ByteArray := prog_6_method_1_code
def yX4_init : MethodName := ⟨RX4, "<init>", "()V"⟩
abbrev cX4_become : ByteArray := prog_6_method_2_code
def yX4_become : MethodName := ⟨RX4, "become", "(II)V"⟩
abbrev cX4_isMissing : ByteArray := prog_6_method_3_code
def yX4_isMissing : MethodName := ⟨RX4, "isMissing", "()Z"⟩
abbrev cX4_hasPlaces : ByteArray := prog_6_method_4_code
def yX4_hasPlaces : MethodName := ⟨RX4, "hasPlaces", "(II)Z"⟩
abbrev cX4_write : ByteArray := prog_6_method_5_code
def yX4_write : MethodName := ⟨RX4, "write", "(II)V"⟩
abbrev cX4_cut : ByteArray := prog_6_method_6_code
def yX4_cut : MethodName := ⟨RX4, "cut", "(I)I"⟩
def RX5 : String := "TwoBenches$Shop"
def TX5 : u_T := fun k => match k with
  | 0 => ("TwoBenches$Shop", "kinds", "[I", true)
  | 1 => ("TwoBenches$Shop", "begins", "[I", true)
  | 2 => ("TwoBenches$Shop", "ends", "[I", true)
  | 3 => ("TwoBenches$Shop", "benches", "[I", true)
  | 4 => ("TwoBenches$Shop", "waits", "[I", true)
  | 5 => ("TwoBenches$Shop", "jobs", "I", false)
  | 6 => ("TwoBenches$Shop", "changes", "I", false)
  | 7 => ("TwoBenches$Shop", "version", "I", false)
  | 8 => ("TwoBenches$Shop", "changedJobs", "[I", true)
  | _ => ("TwoBenches$Shop", "waitsBefore", "[I", true)
def tyX5 : Nat → FieldType := fun k => match k with
  | 0 => .array .int
  | 1 => .array .int
  | 2 => .array .int
  | 3 => .array .int
  | 4 => .array .int
  | 5 => .int
  | 6 => .int
  | 7 => .int
  | 8 => .array .int
  | _ => .array .int
theorem nmX5 : ∀ a, a < 10 → ∀ b, b < 10 → a ≠ b → (TX5 a).2.1 ≠ (TX5 b).2.1 := by decide +kernel
theorem tyX5_ok : ∀ k, k < 10 → parseFieldDescriptor (TX5 k).2.2.1 = some (tyX5 k) := by decide +kernel
abbrev cX5_init : ByteArray := prog_7_method_1_code
def yX5_init : MethodName := ⟨RX5, "<init>", "()V"⟩
abbrev cX5_has : ByteArray := prog_7_method_2_code
def yX5_has : MethodName := ⟨RX5, "has", "(I)Z"⟩
abbrev cX5_all : ByteArray := prog_7_method_3_code
def yX5_all : MethodName := ⟨RX5, "all", "()I"⟩
abbrev cX5_add : ByteArray := prog_7_method_4_code
def yX5_add : MethodName := ⟨RX5, "add", "(III)I"⟩
abbrev cX5_waitForMore : ByteArray := prog_7_method_5_code
def yX5_waitForMore : MethodName := ⟨RX5, "waitForMore", "(II)I"⟩
abbrev cX5_waitNoMore : ByteArray := prog_7_method_6_code
def yX5_waitNoMore : MethodName := ⟨RX5, "waitNoMore", "(II)I"⟩
abbrev cX5_takeBack : ByteArray := prog_7_method_7_code
def yX5_takeBack : MethodName := ⟨RX5, "takeBack", "()Z"⟩
abbrev cX5_note : ByteArray := prog_7_method_8_code
def yX5_note : MethodName := ⟨RX5, "note", "(II)V"⟩
abbrev cX5_beginOf : ByteArray := prog_7_method_9_code
def yX5_beginOf : MethodName := ⟨RX5, "beginOf", "(I)I"⟩
abbrev cX5_endOf : ByteArray := prog_7_method_10_code
def yX5_endOf : MethodName := ⟨RX5, "endOf", "(I)I"⟩
abbrev cX5_ownedAlike : ByteArray := prog_7_method_11_code
def yX5_ownedAlike : MethodName := ⟨RX5, "ownedAlike", "(II)Z"⟩
abbrev cX5_areTwins : ByteArray := prog_7_method_12_code
def yX5_areTwins : MethodName := ⟨RX5, "areTwins", "(II)Z"⟩
abbrev cX5_countWaits : ByteArray := prog_7_method_13_code
def yX5_countWaits : MethodName := ⟨RX5, "countWaits", "()I"⟩
def RX6 : String := "TwoBenches"
def TX6 : u_T := fun k => match k with
  | 0 => ("TwoBenches", "sheets", "[LTwoBenches$Sheet;", true)
  | 1 => ("TwoBenches", "shop", "LTwoBenches$Shop;", true)
  | 2 => ("TwoBenches", "order", "LTwoBenches$Order;", true)
  | 3 => ("TwoBenches", "labelDay", "LTwoBenches$LabelDay;", true)
  | 4 => ("TwoBenches", "keptDay", "LTwoBenches$KeptDay;", true)
  | _ => ("TwoBenches", "refused", "LTwoBenches$Ring;", true)
def tyX6 : Nat → FieldType := fun k => match k with
  | 0 => .array (.object "TwoBenches$Sheet")
  | 1 => .object "TwoBenches$Shop"
  | 2 => .object "TwoBenches$Order"
  | 3 => .object "TwoBenches$LabelDay"
  | 4 => .object "TwoBenches$KeptDay"
  | _ => .object "TwoBenches$Ring"
theorem nmX6 : ∀ a, a < 6 → ∀ b, b < 6 → a ≠ b → (TX6 a).2.1 ≠ (TX6 b).2.1 := by decide +kernel
theorem tyX6_ok : ∀ k, k < 6 → parseFieldDescriptor (TX6 k).2.2.1 = some (tyX6 k) := by decide +kernel
abbrev cX6_init : ByteArray := prog_1_method_1_code
def yX6_init : MethodName := ⟨RX6, "<init>", "()V"⟩
abbrev cX6_sheet : ByteArray := prog_1_method_2_code
def yX6_sheet : MethodName := ⟨RX6, "sheet", "(III)I"⟩
abbrev cX6_put : ByteArray := prog_1_method_3_code
def yX6_put : MethodName := ⟨RX6, "put", "(III)I"⟩
abbrev cX6_copy : ByteArray := prog_1_method_4_code
def yX6_copy : MethodName := ⟨RX6, "copy", "(IIIII)I"⟩
abbrev cX6_told : ByteArray := prog_1_method_5_code
def yX6_told : MethodName := ⟨RX6, "told", "(II)J"⟩
abbrev cX6_isSheet : ByteArray := prog_1_method_6_code
def yX6_isSheet : MethodName := ⟨RX6, "isSheet", "(I)Z"⟩
abbrev cX6_job : ByteArray := prog_1_method_7_code
def yX6_job : MethodName := ⟨RX6, "job", "(III)I"⟩
abbrev cX6_after : ByteArray := prog_1_method_8_code
def yX6_after : MethodName := ⟨RX6, "after", "(II)I"⟩
abbrev cX6_read : ByteArray := prog_1_method_9_code
def yX6_read : MethodName := ⟨RX6, "read", "(IIII)I"⟩
abbrev cX6_free : ByteArray := prog_1_method_10_code
def yX6_free : MethodName := ⟨RX6, "free", "(II)I"⟩
abbrev cX6_ring : ByteArray := prog_1_method_11_code
def yX6_ring : MethodName := ⟨RX6, "ring", "(I)I"⟩
abbrev cX6_about : ByteArray := prog_1_method_12_code
def yX6_about : MethodName := ⟨RX6, "about", "(II)I"⟩
abbrev cX6_undo : ByteArray := prog_1_method_13_code
def yX6_undo : MethodName := ⟨RX6, "undo", "()I"⟩
abbrev cX6_isKind : ByteArray := prog_1_method_14_code
def yX6_isKind : MethodName := ⟨RX6, "isKind", "(III)Z"⟩
abbrev cX6_isBound : ByteArray := prog_1_method_15_code
def yX6_isBound : MethodName := ⟨RX6, "isBound", "(I)Z"⟩
abbrev cX6_readPlaces : ByteArray := prog_1_method_16_code
def yX6_readPlaces : MethodName := ⟨RX6, "readPlaces", "(ILTwoBenches$Sheet;II)I"⟩
abbrev cX6_isRefused : ByteArray := prog_1_method_17_code
def yX6_isRefused : MethodName := ⟨RX6, "isRefused", "(II)Z"⟩
abbrev cX6_least : ByteArray := prog_1_method_18_code
def yX6_least : MethodName := ⟨RX6, "least", "()I"⟩
abbrev cX6_day : ByteArray := prog_1_method_19_code
def yX6_day : MethodName := ⟨RX6, "day", "(II)I"⟩
abbrev cX6_idle : ByteArray := prog_1_method_20_code
def yX6_idle : MethodName := ⟨RX6, "idle", "(I)I"⟩
abbrev cX6_pairs : ByteArray := prog_1_method_21_code
def yX6_pairs : MethodName := ⟨RX6, "pairs", "()I"⟩
abbrev cX6_rest : ByteArray := prog_1_method_22_code
def yX6_rest : MethodName := ⟨RX6, "rest", "(I)I"⟩
abbrev cX6_kept : ByteArray := prog_1_method_23_code
def yX6_kept : MethodName := ⟨RX6, "kept", "()I"⟩
abbrev cX6_code : ByteArray := prog_1_method_24_code
def yX6_code : MethodName := ⟨RX6, "code", "(I)I"⟩
abbrev cX6_check : ByteArray := prog_1_method_25_code
def yX6_check : MethodName := ⟨RX6, "check", "(J)I"⟩
abbrev cX6_count : ByteArray := prog_1_method_26_code
def yX6_count : MethodName := ⟨RX6, "count", "(I)I"⟩
abbrev cX6_isDay : ByteArray := prog_1_method_27_code
def yX6_isDay : MethodName := ⟨RX6, "isDay", "(J)Z"⟩
abbrev cX6_keepsToKinds : ByteArray := prog_1_method_28_code
def yX6_keepsToKinds : MethodName := ⟨RX6, "keepsToKinds", "(J)Z"⟩
abbrev cX6_hourIn : ByteArray := prog_1_method_29_code
def yX6_hourIn : MethodName := ⟨RX6, "hourIn", "(JI)I"⟩
abbrev cX6_orderNow : ByteArray := prog_1_method_30_code
def yX6_orderNow : MethodName := ⟨RX6, "orderNow", "()LTwoBenches$Order;"⟩
abbrev cX6_labelDayNow : ByteArray := prog_1_method_31_code
def yX6_labelDayNow : MethodName := ⟨RX6, "labelDayNow", "()LTwoBenches$LabelDay;"⟩
abbrev cX6_keptDayNow : ByteArray := prog_1_method_32_code
def yX6_keptDayNow : MethodName := ⟨RX6, "keptDayNow", "()LTwoBenches$KeptDay;"⟩
abbrev cX6_bit : ByteArray := prog_1_method_33_code
def yX6_bit : MethodName := ⟨RX6, "bit", "(I)I"⟩
abbrev cX6_holds : ByteArray := prog_1_method_34_code
def yX6_holds : MethodName := ⟨RX6, "holds", "(II)Z"⟩
def RX7 : String := "TwoBenchesModel"
def TX7 : u_T := fun k => match k with
  | 0 => ("TwoBenchesModel", "kindOfSheet", "[I", true)
  | 1 => ("TwoBenchesModel", "size", "[I", true)
  | 2 => ("TwoBenchesModel", "sheets", "[I", true)
  | 3 => ("TwoBenchesModel", "jobs", "I", false)
  | 4 => ("TwoBenchesModel", "kind", "[I", true)
  | 5 => ("TwoBenchesModel", "begin", "[I", true)
  | 6 => ("TwoBenchesModel", "end", "[I", true)
  | 7 => ("TwoBenchesModel", "bench", "[I", true)
  | 8 => ("TwoBenchesModel", "waits", "[I", true)
  | 9 => ("TwoBenchesModel", "kept", "I", false)
  | 10 => ("TwoBenchesModel", "was", "[I", true)
  | 11 => ("TwoBenchesModel", "ringMany", "I", false)
  | 12 => ("TwoBenchesModel", "rings", "[I", true)
  | 13 => ("TwoBenchesModel", "middle", "[I", true)
  | 14 => ("TwoBenchesModel", "isLaid", "Z", false)
  | 15 => ("TwoBenchesModel", "behind", "[I", true)
  | 16 => ("TwoBenchesModel", "steps", "[I", true)
  | 17 => ("TwoBenchesModel", "label", "[I", true)
  | 18 => ("TwoBenchesModel", "hour", "[I", true)
  | 19 => ("TwoBenchesModel", "length", "I", false)
  | 20 => ("TwoBenchesModel", "depth", "[I", true)
  | 21 => ("TwoBenchesModel", "pairsOf", "[I", true)
  | 22 => ("TwoBenchesModel", "last", "[I", true)
  | 23 => ("TwoBenchesModel", "codes", "[I", true)
  | 24 => ("TwoBenchesModel", "keptHour", "[I", true)
  | 25 => ("TwoBenchesModel", "keptLength", "I", false)
  | 26 => ("TwoBenchesModel", "leastCode", "I", false)
  | _ => ("TwoBenchesModel", "leastDone", "I", false)
def tyX7 : Nat → FieldType := fun k => match k with
  | 0 => .array .int
  | 1 => .array .int
  | 2 => .array .int
  | 3 => .int
  | 4 => .array .int
  | 5 => .array .int
  | 6 => .array .int
  | 7 => .array .int
  | 8 => .array .int
  | 9 => .int
  | 10 => .array .int
  | 11 => .int
  | 12 => .array .int
  | 13 => .array .int
  | 14 => .boolean
  | 15 => .array .int
  | 16 => .array .int
  | 17 => .array .int
  | 18 => .array .int
  | 19 => .int
  | 20 => .array .int
  | 21 => .array .int
  | 22 => .array .int
  | 23 => .array .int
  | 24 => .array .int
  | 25 => .int
  | 26 => .int
  | _ => .int
theorem nmX7 : ∀ a, a < 28 → ∀ b, b < 28 → a ≠ b → (TX7 a).2.1 ≠ (TX7 b).2.1 := by decide +kernel
theorem tyX7_ok : ∀ k, k < 28 → parseFieldDescriptor (TX7 k).2.2.1 = some (tyX7 k) := by decide +kernel
abbrev cX7_init : ByteArray := prog_9_method_1_code
def yX7_init : MethodName := ⟨RX7, "<init>", "()V"⟩
abbrev cX7_in : ByteArray := prog_9_method_2_code
def yX7_in : MethodName := ⟨RX7, "in", "(JJJ)Z"⟩
abbrev cX7_isSheet : ByteArray := prog_9_method_3_code
def yX7_isSheet : MethodName := ⟨RX7, "isSheet", "(I)Z"⟩
abbrev cX7_sheet : ByteArray := prog_9_method_4_code
def yX7_sheet : MethodName := ⟨RX7, "sheet", "(III)I"⟩
abbrev cX7_against : ByteArray := prog_9_method_5_code
def yX7_against : MethodName := ⟨RX7, "against", "(II)I"⟩
abbrev cX7_put : ByteArray := prog_9_method_6_code
def yX7_put : MethodName := ⟨RX7, "put", "(III)I"⟩
abbrev cX7_copy : ByteArray := prog_9_method_7_code
def yX7_copy : MethodName := ⟨RX7, "copy", "(IIIII)I"⟩
abbrev cX7_told : ByteArray := prog_9_method_8_code
def yX7_told : MethodName := ⟨RX7, "told", "(II)J"⟩
abbrev cX7_isJob : ByteArray := prog_9_method_9_code
def yX7_isJob : MethodName := ⟨RX7, "isJob", "(I)Z"⟩
abbrev cX7_keep : ByteArray := prog_9_method_10_code
def yX7_keep : MethodName := ⟨RX7, "keep", "()V"⟩
abbrev cX7_undo : ByteArray := prog_9_method_11_code
def yX7_undo : MethodName := ⟨RX7, "undo", "()I"⟩
abbrev cX7_isHour : ByteArray := prog_9_method_12_code
def yX7_isHour : MethodName := ⟨RX7, "isHour", "(I)Z"⟩
abbrev cX7_job : ByteArray := prog_9_method_13_code
def yX7_job : MethodName := ⟨RX7, "job", "(III)I"⟩
abbrev cX7_layBehind : ByteArray := prog_9_method_14_code
def yX7_layBehind : MethodName := ⟨RX7, "layBehind", "()V"⟩
abbrev cX7_isBehind : ByteArray := prog_9_method_15_code
def yX7_isBehind : MethodName := ⟨RX7, "isBehind", "(II)Z"⟩
abbrev cX7_layRing : ByteArray := prog_9_method_16_code
def yX7_layRing : MethodName := ⟨RX7, "layRing", "(II)V"⟩
abbrev cX7_wouldRing : ByteArray := prog_9_method_17_code
def yX7_wouldRing : MethodName := ⟨RX7, "wouldRing", "(II)Z"⟩
abbrev cX7_after : ByteArray := prog_9_method_18_code
def yX7_after : MethodName := ⟨RX7, "after", "(II)I"⟩
abbrev cX7_read : ByteArray := prog_9_method_19_code
def yX7_read : MethodName := ⟨RX7, "read", "(IIII)I"⟩
abbrev cX7_bits : ByteArray := prog_9_method_20_code
def yX7_bits : MethodName := ⟨RX7, "bits", "(I)I"⟩
abbrev cX7_free : ByteArray := prog_9_method_21_code
def yX7_free : MethodName := ⟨RX7, "free", "(II)I"⟩
abbrev cX7_ring : ByteArray := prog_9_method_22_code
def yX7_ring : MethodName := ⟨RX7, "ring", "(I)I"⟩
abbrev cX7_nextOf : ByteArray := prog_9_method_23_code
def yX7_nextOf : MethodName := ⟨RX7, "nextOf", "(II)I"⟩
abbrev cX7_rowOf : ByteArray := prog_9_method_24_code
def yX7_rowOf : MethodName := ⟨RX7, "rowOf", "(I)I"⟩
abbrev cX7_layLabels : ByteArray := prog_9_method_25_code
def yX7_layLabels : MethodName := ⟨RX7, "layLabels", "(I)V"⟩
abbrev cX7_greatest : ByteArray := prog_9_method_26_code
def yX7_greatest : MethodName := ⟨RX7, "greatest", "(II)I"⟩
abbrev cX7_layDay : ByteArray := prog_9_method_27_code
def yX7_layDay : MethodName := ⟨RX7, "layDay", "(I)V"⟩
abbrev cX7_all : ByteArray := prog_9_method_28_code
def yX7_all : MethodName := ⟨RX7, "all", "()I"⟩
abbrev cX7_depthOf : ByteArray := prog_9_method_29_code
def yX7_depthOf : MethodName := ⟨RX7, "depthOf", "(I[I)I"⟩
abbrev cX7_layDepths : ByteArray := prog_9_method_30_code
def yX7_layDepths : MethodName := ⟨RX7, "layDepths", "()V"⟩
abbrev cX7_behindOf : ByteArray := prog_9_method_31_code
def yX7_behindOf : MethodName := ⟨RX7, "behindOf", "(I)I"⟩
abbrev cX7_about : ByteArray := prog_9_method_32_code
def yX7_about : MethodName := ⟨RX7, "about", "(II)I"⟩
abbrev cX7_least : ByteArray := prog_9_method_33_code
def yX7_least : MethodName := ⟨RX7, "least", "()I"⟩
abbrev cX7_day : ByteArray := prog_9_method_34_code
def yX7_day : MethodName := ⟨RX7, "day", "(II)I"⟩
abbrev cX7_inHour : ByteArray := prog_9_method_35_code
def yX7_inHour : MethodName := ⟨RX7, "inHour", "(I)I"⟩
abbrev cX7_idle : ByteArray := prog_9_method_36_code
def yX7_idle : MethodName := ⟨RX7, "idle", "(I)I"⟩
abbrev cX7_pairs : ByteArray := prog_9_method_37_code
def yX7_pairs : MethodName := ⟨RX7, "pairs", "()I"⟩
abbrev cX7_rest : ByteArray := prog_9_method_38_code
def yX7_rest : MethodName := ⟨RX7, "rest", "(I)I"⟩
abbrev cX7_may : ByteArray := prog_9_method_39_code
def yX7_may : MethodName := ⟨RX7, "may", "(III)Z"⟩
abbrev cX7_may2 : ByteArray := prog_9_method_40_code
def yX7_may2 : MethodName := ⟨RX7, "may2", "(II)Z"⟩
abbrev cX7_codeOf : ByteArray := prog_9_method_41_code
def yX7_codeOf : MethodName := ⟨RX7, "codeOf", "(II)I"⟩
abbrev cX7_bestOf : ByteArray := prog_9_method_42_code
def yX7_bestOf : MethodName := ⟨RX7, "bestOf", "(II)I"⟩
abbrev cX7_layKept : ByteArray := prog_9_method_43_code
def yX7_layKept : MethodName := ⟨RX7, "layKept", "()V"⟩
abbrev cX7_kept : ByteArray := prog_9_method_44_code
def yX7_kept : MethodName := ⟨RX7, "kept", "()I"⟩
abbrev cX7_code : ByteArray := prog_9_method_45_code
def yX7_code : MethodName := ⟨RX7, "code", "(I)I"⟩
abbrev cX7_check : ByteArray := prog_9_method_46_code
def yX7_check : MethodName := ⟨RX7, "check", "(J)I"⟩
abbrev cX7_count : ByteArray := prog_9_method_47_code
def yX7_count : MethodName := ⟨RX7, "count", "(I)I"⟩
def RJ6 : String := "java/lang/Integer"
abbrev cJ6_bitCount_0f7a4 : ByteArray := prog_10_method_49_code
def yJ6_bitCount_0f7a4 : MethodName := ⟨RJ6, "bitCount", "(I)I"⟩
def RJ9 : String := "java/lang/Math"
abbrev cJ9_max_7cf53 : ByteArray := prog_11_method_65_code
def yJ9_max_7cf53 : MethodName := ⟨RJ9, "max", "(II)I"⟩
abbrev cJ9_min_7cf53 : ByteArray := prog_11_method_69_code
def yJ9_min_7cf53 : MethodName := ⟨RJ9, "min", "(II)I"⟩
def RJ10 : String := "java/lang/System"
def RJ7 : String := "java/util/Arrays"
abbrev cJ7_fill_53178 : ByteArray := prog_13_method_103_code
def yJ7_fill_53178 : MethodName := ⟨RJ7, "fill", "([II)V"⟩
def RL : String := "TwoBenchesLaw"
abbrev cL_law : ByteArray := code
def yL_law : MethodName := ⟨RL, "law", "([I)Z"⟩
end
section
theorem dX0_init_0 : decode cX0_init 0 = .ok (.aload_n 0, 1) := by decide +kernel
theorem dX0_init_1 : decode cX0_init 1 = .ok (.invokespecial 3, 3) := by decide +kernel
theorem dX0_init_4 : decode cX0_init 4 = .ok (.aload_n 0, 1) := by decide +kernel
theorem dX0_init_5 : decode cX0_init 5 = .ok (.bipush 61, 2) := by decide +kernel
theorem dX0_init_7 : decode cX0_init 7 = .ok (.newarray .int, 2) := by decide +kernel
theorem dX0_init_9 : decode cX0_init 9 = .ok (.putfield 9, 3) := by decide +kernel
theorem dX0_init_12 : decode cX0_init 12 = .ok (.aload_n 0, 1) := by decide +kernel
theorem dX0_init_13 : decode cX0_init 13 = .ok (.bipush 10, 2) := by decide +kernel
theorem dX0_init_15 : decode cX0_init 15 = .ok (.newarray .int, 2) := by decide +kernel
theorem dX0_init_17 : decode cX0_init 17 = .ok (.putfield 15, 3) := by decide +kernel
theorem dX0_init_20 : decode cX0_init 20 = .ok (.aload_n 0, 1) := by decide +kernel
theorem dX0_init_21 : decode cX0_init 21 = .ok (.iconst 0, 1) := by decide +kernel
theorem dX0_init_22 : decode cX0_init 22 = .ok (.putfield 18, 3) := by decide +kernel
theorem dX0_init_25 : decode cX0_init 25 = .ok (.aload_n 0, 1) := by decide +kernel
theorem dX0_init_26 : decode cX0_init 26 = .ok (.bipush 55, 2) := by decide +kernel
theorem dX0_init_28 : decode cX0_init 28 = .ok (.newarray .int, 2) := by decide +kernel
theorem dX0_init_30 : decode cX0_init 30 = .ok (.putfield 22, 3) := by decide +kernel
theorem dX0_init_33 : decode cX0_init 33 = .ok (.aload_n 0, 1) := by decide +kernel
theorem dX0_init_34 : decode cX0_init 34 = .ok (.bipush 55, 2) := by decide +kernel
theorem dX0_init_36 : decode cX0_init 36 = .ok (.newarray .int, 2) := by decide +kernel
theorem dX0_init_38 : decode cX0_init 38 = .ok (.putfield 25, 3) := by decide +kernel
theorem dX0_init_41 : decode cX0_init 41 = .ok (.aload_n 0, 1) := by decide +kernel
theorem dX0_init_42 : decode cX0_init 42 = .ok (.bipush 55, 2) := by decide +kernel
theorem dX0_init_44 : decode cX0_init 44 = .ok (.newarray .int, 2) := by decide +kernel
theorem dX0_init_46 : decode cX0_init 46 = .ok (.putfield 28, 3) := by decide +kernel
theorem dX0_init_49 : decode cX0_init 49 = .ok (.aload_n 0, 1) := by decide +kernel
theorem dX0_init_50 : decode cX0_init 50 = .ok (.bipush 55, 2) := by decide +kernel
theorem dX0_init_52 : decode cX0_init 52 = .ok (.newarray .int, 2) := by decide +kernel
theorem dX0_init_54 : decode cX0_init 54 = .ok (.putfield 31, 3) := by decide +kernel
theorem dX0_init_57 : decode cX0_init 57 = .ok (.aload_n 0, 1) := by decide +kernel
theorem dX0_init_58 : decode cX0_init 58 = .ok (.bipush 55, 2) := by decide +kernel
theorem dX0_init_60 : decode cX0_init 60 = .ok (.newarray .int, 2) := by decide +kernel
theorem dX0_init_62 : decode cX0_init 62 = .ok (.putfield 34, 3) := by decide +kernel
theorem dX0_init_65 : decode cX0_init 65 = .ok (.aload_n 0, 1) := by decide +kernel
theorem dX0_init_66 : decode cX0_init 66 = .ok (.iconst 0, 1) := by decide +kernel
theorem dX0_init_67 : decode cX0_init 67 = .ok (.putfield 37, 3) := by decide +kernel
theorem dX0_init_70 : decode cX0_init 70 = .ok (.aload_n 0, 1) := by decide +kernel
theorem dX0_init_71 : decode cX0_init 71 = .ok (.sipush 1024, 3) := by decide +kernel
theorem dX0_init_74 : decode cX0_init 74 = .ok (.newarray .int, 2) := by decide +kernel
theorem dX0_init_76 : decode cX0_init 76 = .ok (.putfield 40, 3) := by decide +kernel
theorem dX0_init_79 : decode cX0_init 79 = .ok (.aload_n 0, 1) := by decide +kernel
theorem dX0_init_80 : decode cX0_init 80 = .ok (.sipush 1024, 3) := by decide +kernel
theorem dX0_init_83 : decode cX0_init 83 = .ok (.newarray .int, 2) := by decide +kernel
theorem dX0_init_85 : decode cX0_init 85 = .ok (.putfield 43, 3) := by decide +kernel
theorem dX0_init_88 : decode cX0_init 88 = .ok (.aload_n 0, 1) := by decide +kernel
theorem dX0_init_89 : decode cX0_init 89 = .ok (.iconst (-1), 1) := by decide +kernel
theorem dX0_init_90 : decode cX0_init 90 = .ok (.putfield 46, 3) := by decide +kernel
theorem dX0_init_93 : decode cX0_init 93 = .ok (.aload_n 0, 1) := by decide +kernel
theorem dX0_init_94 : decode cX0_init 94 = .ok (.aload_n 1, 1) := by decide +kernel
theorem dX0_init_95 : decode cX0_init 95 = .ok (.putfield 49, 3) := by decide +kernel
theorem dX0_init_98 : decode cX0_init 98 = .ok (.aload_n 0, 1) := by decide +kernel
theorem dX0_init_99 : decode cX0_init 99 = .ok (.aload_n 2, 1) := by decide +kernel
theorem dX0_init_100 : decode cX0_init 100 = .ok (.putfield 53, 3) := by decide +kernel
theorem dX0_init_103 : decode cX0_init 103 = .ok (.return_, 1) := by decide +kernel
theorem dX0_renew_0 : decode cX0_renew 0 = .ok (.aload_n 0, 1) := by decide +kernel
theorem dX0_renew_1 : decode cX0_renew 1 = .ok (.getfield 46, 3) := by decide +kernel
theorem dX0_renew_4 : decode cX0_renew 4 = .ok (.aload_n 0, 1) := by decide +kernel
theorem dX0_renew_5 : decode cX0_renew 5 = .ok (.getfield 49, 3) := by decide +kernel
theorem dX0_renew_8 : decode cX0_renew 8 = .ok (.getfield 57, 3) := by decide +kernel
theorem dX0_renew_11 : decode cX0_renew 11 = .ok (.if_icmp .ne 4, 3) := by decide +kernel
theorem dX0_renew_14 : decode cX0_renew 14 = .ok (.return_, 1) := by decide +kernel
theorem dX0_renew_15 : decode cX0_renew 15 = .ok (.aload_n 0, 1) := by decide +kernel
theorem dX0_renew_16 : decode cX0_renew 16 = .ok (.aload_n 0, 1) := by decide +kernel
theorem dX0_renew_17 : decode cX0_renew 17 = .ok (.getfield 49, 3) := by decide +kernel
theorem dX0_renew_20 : decode cX0_renew 20 = .ok (.getfield 57, 3) := by decide +kernel
theorem dX0_renew_23 : decode cX0_renew 23 = .ok (.putfield 46, 3) := by decide +kernel
theorem dX0_renew_26 : decode cX0_renew 26 = .ok (.aload_n 0, 1) := by decide +kernel
theorem dX0_renew_27 : decode cX0_renew 27 = .ok (.getfield 53, 3) := by decide +kernel
theorem dX0_renew_30 : decode cX0_renew 30 = .ok (.invokevirtual 62, 3) := by decide +kernel
theorem dX0_renew_33 : decode cX0_renew 33 = .ok (.aload_n 0, 1) := by decide +kernel
theorem dX0_renew_34 : decode cX0_renew 34 = .ok (.invokevirtual 67, 3) := by decide +kernel
theorem dX0_renew_37 : decode cX0_renew 37 = .ok (.aload_n 0, 1) := by decide +kernel
theorem dX0_renew_38 : decode cX0_renew 38 = .ok (.invokevirtual 70, 3) := by decide +kernel
theorem dX0_renew_41 : decode cX0_renew 41 = .ok (.aload_n 0, 1) := by decide +kernel
theorem dX0_renew_42 : decode cX0_renew 42 = .ok (.getfield 40, 3) := by decide +kernel
theorem dX0_renew_45 : decode cX0_renew 45 = .ok (.aload_n 0, 1) := by decide +kernel
theorem dX0_renew_46 : decode cX0_renew 46 = .ok (.getfield 49, 3) := by decide +kernel
theorem dX0_renew_49 : decode cX0_renew 49 = .ok (.invokevirtual 73, 3) := by decide +kernel
theorem dX0_renew_52 : decode cX0_renew 52 = .ok (.iaload, 1) := by decide +kernel
theorem dX0_renew_53 : decode cX0_renew 53 = .ok (.istore_n 1, 1) := by decide +kernel
theorem dX0_renew_54 : decode cX0_renew 54 = .ok (.iload_n 1, 1) := by decide +kernel
theorem dX0_renew_55 : decode cX0_renew 55 = .ok (.bipush 60, 2) := by decide +kernel
theorem dX0_renew_57 : decode cX0_renew 57 = .ok (.if_icmp .le 19, 3) := by decide +kernel
theorem dX0_renew_60 : decode cX0_renew 60 = .ok (.aload_n 0, 1) := by decide +kernel
theorem dX0_renew_61 : decode cX0_renew 61 = .ok (.bipush (-3), 2) := by decide +kernel
theorem dX0_renew_63 : decode cX0_renew 63 = .ok (.putfield 18, 3) := by decide +kernel
theorem dX0_renew_66 : decode cX0_renew 66 = .ok (.aload_n 0, 1) := by decide +kernel
theorem dX0_renew_67 : decode cX0_renew 67 = .ok (.getfield 15, 3) := by decide +kernel
theorem dX0_renew_70 : decode cX0_renew 70 = .ok (.bipush (-3), 2) := by decide +kernel
theorem dX0_renew_72 : decode cX0_renew 72 = .ok (.invokestatic 77, 3) := by decide +kernel
theorem dX0_renew_75 : decode cX0_renew 75 = .ok (.return_, 1) := by decide +kernel
theorem dX0_renew_76 : decode cX0_renew 76 = .ok (.aload_n 0, 1) := by decide +kernel
theorem dX0_renew_77 : decode cX0_renew 77 = .ok (.iload_n 1, 1) := by decide +kernel
theorem dX0_renew_78 : decode cX0_renew 78 = .ok (.putfield 18, 3) := by decide +kernel
theorem dX0_renew_81 : decode cX0_renew 81 = .ok (.aload_n 0, 1) := by decide +kernel
theorem dX0_renew_82 : decode cX0_renew 82 = .ok (.invokevirtual 83, 3) := by decide +kernel
theorem dX0_renew_85 : decode cX0_renew 85 = .ok (.aload_n 0, 1) := by decide +kernel
theorem dX0_renew_86 : decode cX0_renew 86 = .ok (.invokevirtual 86, 3) := by decide +kernel
theorem dX0_renew_89 : decode cX0_renew 89 = .ok (.return_, 1) := by decide +kernel
theorem dX0_listBlocks_0 : decode cX0_listBlocks 0 = .ok (.aload_n 0, 1) := by decide +kernel
theorem dX0_listBlocks_1 : decode cX0_listBlocks 1 = .ok (.iconst 0, 1) := by decide +kernel
theorem dX0_listBlocks_2 : decode cX0_listBlocks 2 = .ok (.putfield 37, 3) := by decide +kernel
theorem dX0_listBlocks_5 : decode cX0_listBlocks 5 = .ok (.iconst 0, 1) := by decide +kernel
theorem dX0_listBlocks_6 : decode cX0_listBlocks 6 = .ok (.istore_n 1, 1) := by decide +kernel
theorem dX0_listBlocks_7 : decode cX0_listBlocks 7 = .ok (.iload_n 1, 1) := by decide +kernel
theorem dX0_listBlocks_8 : decode cX0_listBlocks 8 = .ok (.aload_n 0, 1) := by decide +kernel
theorem dX0_listBlocks_9 : decode cX0_listBlocks 9 = .ok (.getfield 49, 3) := by decide +kernel
theorem dX0_listBlocks_12 : decode cX0_listBlocks 12 = .ok (.getfield 89, 3) := by decide +kernel
theorem dX0_listBlocks_15 : decode cX0_listBlocks 15 = .ok (.if_icmp .ge 114, 3) := by decide +kernel
theorem dX0_listBlocks_18 : decode cX0_listBlocks 18 = .ok (.aload_n 0, 1) := by decide +kernel
theorem dX0_listBlocks_19 : decode cX0_listBlocks 19 = .ok (.getfield 53, 3) := by decide +kernel
theorem dX0_listBlocks_22 : decode cX0_listBlocks 22 = .ok (.getfield 92, 3) := by decide +kernel
theorem dX0_listBlocks_25 : decode cX0_listBlocks 25 = .ok (.iload_n 1, 1) := by decide +kernel
theorem dX0_listBlocks_26 : decode cX0_listBlocks 26 = .ok (.iaload, 1) := by decide +kernel
theorem dX0_listBlocks_27 : decode cX0_listBlocks 27 = .ok (.aload_n 0, 1) := by decide +kernel
theorem dX0_listBlocks_28 : decode cX0_listBlocks 28 = .ok (.iload_n 1, 1) := by decide +kernel
theorem dX0_listBlocks_29 : decode cX0_listBlocks 29 = .ok (.invokevirtual 95, 3) := by decide +kernel
theorem dX0_listBlocks_32 : decode cX0_listBlocks 32 = .ok (.ior, 1) := by decide +kernel
theorem dX0_listBlocks_33 : decode cX0_listBlocks 33 = .ok (.istore_n 2, 1) := by decide +kernel
theorem dX0_listBlocks_34 : decode cX0_listBlocks 34 = .ok (.iload_n 1, 1) := by decide +kernel
theorem dX0_listBlocks_35 : decode cX0_listBlocks 35 = .ok (.iconst 1, 1) := by decide +kernel
theorem dX0_listBlocks_36 : decode cX0_listBlocks 36 = .ok (.iadd, 1) := by decide +kernel
theorem dX0_listBlocks_37 : decode cX0_listBlocks 37 = .ok (.istore_n 3, 1) := by decide +kernel
theorem dX0_listBlocks_38 : decode cX0_listBlocks 38 = .ok (.iload_n 3, 1) := by decide +kernel
theorem dX0_listBlocks_39 : decode cX0_listBlocks 39 = .ok (.aload_n 0, 1) := by decide +kernel
theorem dX0_listBlocks_40 : decode cX0_listBlocks 40 = .ok (.getfield 49, 3) := by decide +kernel
theorem dX0_listBlocks_43 : decode cX0_listBlocks 43 = .ok (.getfield 89, 3) := by decide +kernel
theorem dX0_listBlocks_46 : decode cX0_listBlocks 46 = .ok (.if_icmp .ge 65, 3) := by decide +kernel
theorem dX0_listBlocks_49 : decode cX0_listBlocks 49 = .ok (.aload_n 0, 1) := by decide +kernel
theorem dX0_listBlocks_50 : decode cX0_listBlocks 50 = .ok (.getfield 53, 3) := by decide +kernel
theorem dX0_listBlocks_53 : decode cX0_listBlocks 53 = .ok (.iload_n 1, 1) := by decide +kernel
theorem dX0_listBlocks_54 : decode cX0_listBlocks 54 = .ok (.iload_n 3, 1) := by decide +kernel
theorem dX0_listBlocks_55 : decode cX0_listBlocks 55 = .ok (.invokevirtual 99, 3) := by decide +kernel
theorem dX0_listBlocks_58 : decode cX0_listBlocks 58 = .ok (.ifCond .eq 47, 3) := by decide +kernel
theorem dX0_listBlocks_61 : decode cX0_listBlocks 61 = .ok (.aload_n 0, 1) := by decide +kernel
theorem dX0_listBlocks_62 : decode cX0_listBlocks 62 = .ok (.getfield 49, 3) := by decide +kernel
theorem dX0_listBlocks_65 : decode cX0_listBlocks 65 = .ok (.iload_n 1, 1) := by decide +kernel
theorem dX0_listBlocks_66 : decode cX0_listBlocks 66 = .ok (.iload_n 3, 1) := by decide +kernel
theorem dX0_listBlocks_67 : decode cX0_listBlocks 67 = .ok (.invokevirtual 103, 3) := by decide +kernel
theorem dX0_listBlocks_70 : decode cX0_listBlocks 70 = .ok (.ifCond .ne 35, 3) := by decide +kernel
theorem dX0_listBlocks_73 : decode cX0_listBlocks 73 = .ok (.aload_n 0, 1) := by decide +kernel
theorem dX0_listBlocks_74 : decode cX0_listBlocks 74 = .ok (.iload_n 1, 1) := by decide +kernel
theorem dX0_listBlocks_75 : decode cX0_listBlocks 75 = .ok (.iload_n 3, 1) := by decide +kernel
theorem dX0_listBlocks_76 : decode cX0_listBlocks 76 = .ok (.iload_n 1, 1) := by decide +kernel
theorem dX0_listBlocks_77 : decode cX0_listBlocks 77 = .ok (.invokestatic 106, 3) := by decide +kernel
theorem dX0_listBlocks_80 : decode cX0_listBlocks 80 = .ok (.iload_n 3, 1) := by decide +kernel
theorem dX0_listBlocks_81 : decode cX0_listBlocks 81 = .ok (.invokestatic 106, 3) := by decide +kernel
theorem dX0_listBlocks_84 : decode cX0_listBlocks 84 = .ok (.ior, 1) := by decide +kernel
theorem dX0_listBlocks_85 : decode cX0_listBlocks 85 = .ok (.iload_n 2, 1) := by decide +kernel
theorem dX0_listBlocks_86 : decode cX0_listBlocks 86 = .ok (.aload_n 0, 1) := by decide +kernel
theorem dX0_listBlocks_87 : decode cX0_listBlocks 87 = .ok (.getfield 53, 3) := by decide +kernel
theorem dX0_listBlocks_90 : decode cX0_listBlocks 90 = .ok (.getfield 92, 3) := by decide +kernel
theorem dX0_listBlocks_93 : decode cX0_listBlocks 93 = .ok (.iload_n 3, 1) := by decide +kernel
theorem dX0_listBlocks_94 : decode cX0_listBlocks 94 = .ok (.iaload, 1) := by decide +kernel
theorem dX0_listBlocks_95 : decode cX0_listBlocks 95 = .ok (.ior, 1) := by decide +kernel
theorem dX0_listBlocks_96 : decode cX0_listBlocks 96 = .ok (.aload_n 0, 1) := by decide +kernel
theorem dX0_listBlocks_97 : decode cX0_listBlocks 97 = .ok (.iload_n 3, 1) := by decide +kernel
theorem dX0_listBlocks_98 : decode cX0_listBlocks 98 = .ok (.invokevirtual 95, 3) := by decide +kernel
theorem dX0_listBlocks_101 : decode cX0_listBlocks 101 = .ok (.ior, 1) := by decide +kernel
theorem dX0_listBlocks_102 : decode cX0_listBlocks 102 = .ok (.invokevirtual 109, 3) := by decide +kernel
theorem dX0_listBlocks_105 : decode cX0_listBlocks 105 = .ok (.iinc 3 1, 3) := by decide +kernel
theorem dX0_listBlocks_108 : decode cX0_listBlocks 108 = .ok (.goto (-70), 3) := by decide +kernel
theorem dX0_listBlocks_111 : decode cX0_listBlocks 111 = .ok (.aload_n 0, 1) := by decide +kernel
theorem dX0_listBlocks_112 : decode cX0_listBlocks 112 = .ok (.iload_n 1, 1) := by decide +kernel
theorem dX0_listBlocks_113 : decode cX0_listBlocks 113 = .ok (.bipush 10, 2) := by decide +kernel
theorem dX0_listBlocks_115 : decode cX0_listBlocks 115 = .ok (.iload_n 1, 1) := by decide +kernel
theorem dX0_listBlocks_116 : decode cX0_listBlocks 116 = .ok (.invokestatic 106, 3) := by decide +kernel
theorem dX0_listBlocks_119 : decode cX0_listBlocks 119 = .ok (.iload_n 2, 1) := by decide +kernel
theorem dX0_listBlocks_120 : decode cX0_listBlocks 120 = .ok (.invokevirtual 109, 3) := by decide +kernel
theorem dX0_listBlocks_123 : decode cX0_listBlocks 123 = .ok (.iinc 1 1, 3) := by decide +kernel
theorem dX0_listBlocks_126 : decode cX0_listBlocks 126 = .ok (.goto (-119), 3) := by decide +kernel
theorem dX0_listBlocks_129 : decode cX0_listBlocks 129 = .ok (.return_, 1) := by decide +kernel
theorem dX0_lesserTwins_0 : decode cX0_lesserTwins 0 = .ok (.iconst 0, 1) := by decide +kernel
theorem dX0_lesserTwins_1 : decode cX0_lesserTwins 1 = .ok (.istore_n 2, 1) := by decide +kernel
theorem dX0_lesserTwins_2 : decode cX0_lesserTwins 2 = .ok (.iconst 0, 1) := by decide +kernel
theorem dX0_lesserTwins_3 : decode cX0_lesserTwins 3 = .ok (.istore_n 3, 1) := by decide +kernel
theorem dX0_lesserTwins_4 : decode cX0_lesserTwins 4 = .ok (.iload_n 3, 1) := by decide +kernel
theorem dX0_lesserTwins_5 : decode cX0_lesserTwins 5 = .ok (.iload_n 1, 1) := by decide +kernel
theorem dX0_lesserTwins_6 : decode cX0_lesserTwins 6 = .ok (.if_icmp .ge 40, 3) := by decide +kernel
theorem dX0_lesserTwins_9 : decode cX0_lesserTwins 9 = .ok (.aload_n 0, 1) := by decide +kernel
theorem dX0_lesserTwins_10 : decode cX0_lesserTwins 10 = .ok (.getfield 53, 3) := by decide +kernel
theorem dX0_lesserTwins_13 : decode cX0_lesserTwins 13 = .ok (.iload_n 1, 1) := by decide +kernel
theorem dX0_lesserTwins_14 : decode cX0_lesserTwins 14 = .ok (.iload_n 3, 1) := by decide +kernel
theorem dX0_lesserTwins_15 : decode cX0_lesserTwins 15 = .ok (.invokevirtual 113, 3) := by decide +kernel
theorem dX0_lesserTwins_18 : decode cX0_lesserTwins 18 = .ok (.ifCond .eq 22, 3) := by decide +kernel
theorem dX0_lesserTwins_21 : decode cX0_lesserTwins 21 = .ok (.aload_n 0, 1) := by decide +kernel
theorem dX0_lesserTwins_22 : decode cX0_lesserTwins 22 = .ok (.getfield 49, 3) := by decide +kernel
theorem dX0_lesserTwins_25 : decode cX0_lesserTwins 25 = .ok (.iload_n 1, 1) := by decide +kernel
theorem dX0_lesserTwins_26 : decode cX0_lesserTwins 26 = .ok (.iload_n 3, 1) := by decide +kernel
theorem dX0_lesserTwins_27 : decode cX0_lesserTwins 27 = .ok (.invokevirtual 116, 3) := by decide +kernel
theorem dX0_lesserTwins_30 : decode cX0_lesserTwins 30 = .ok (.ifCond .eq 10, 3) := by decide +kernel
theorem dX0_lesserTwins_33 : decode cX0_lesserTwins 33 = .ok (.iload_n 2, 1) := by decide +kernel
theorem dX0_lesserTwins_34 : decode cX0_lesserTwins 34 = .ok (.iload_n 3, 1) := by decide +kernel
theorem dX0_lesserTwins_35 : decode cX0_lesserTwins 35 = .ok (.invokestatic 106, 3) := by decide +kernel
theorem dX0_lesserTwins_38 : decode cX0_lesserTwins 38 = .ok (.ior, 1) := by decide +kernel
theorem dX0_lesserTwins_39 : decode cX0_lesserTwins 39 = .ok (.istore_n 2, 1) := by decide +kernel
theorem dX0_lesserTwins_40 : decode cX0_lesserTwins 40 = .ok (.iinc 3 1, 3) := by decide +kernel
theorem dX0_lesserTwins_43 : decode cX0_lesserTwins 43 = .ok (.goto (-39), 3) := by decide +kernel
theorem dX0_lesserTwins_46 : decode cX0_lesserTwins 46 = .ok (.iload_n 2, 1) := by decide +kernel
theorem dX0_lesserTwins_47 : decode cX0_lesserTwins 47 = .ok (.ireturn, 1) := by decide +kernel
theorem dX0_addBlock_0 : decode cX0_addBlock 0 = .ok (.aload_n 0, 1) := by decide +kernel
theorem dX0_addBlock_1 : decode cX0_addBlock 1 = .ok (.getfield 49, 3) := by decide +kernel
theorem dX0_addBlock_4 : decode cX0_addBlock 4 = .ok (.getfield 117, 3) := by decide +kernel
theorem dX0_addBlock_7 : decode cX0_addBlock 7 = .ok (.iload_n 1, 1) := by decide +kernel
theorem dX0_addBlock_8 : decode cX0_addBlock 8 = .ok (.iaload, 1) := by decide +kernel
theorem dX0_addBlock_9 : decode cX0_addBlock 9 = .ok (.aload_n 0, 1) := by decide +kernel
theorem dX0_addBlock_10 : decode cX0_addBlock 10 = .ok (.getfield 49, 3) := by decide +kernel
theorem dX0_addBlock_13 : decode cX0_addBlock 13 = .ok (.getfield 117, 3) := by decide +kernel
theorem dX0_addBlock_16 : decode cX0_addBlock 16 = .ok (.iload_n 2, 1) := by decide +kernel
theorem dX0_addBlock_17 : decode cX0_addBlock 17 = .ok (.iaload, 1) := by decide +kernel
theorem dX0_addBlock_18 : decode cX0_addBlock 18 = .ok (.invokestatic 120, 3) := by decide +kernel
theorem dX0_addBlock_21 : decode cX0_addBlock 21 = .ok (.istore 5, 2) := by decide +kernel
theorem dX0_addBlock_23 : decode cX0_addBlock 23 = .ok (.aload_n 0, 1) := by decide +kernel
theorem dX0_addBlock_24 : decode cX0_addBlock 24 = .ok (.getfield 49, 3) := by decide +kernel
theorem dX0_addBlock_27 : decode cX0_addBlock 27 = .ok (.getfield 126, 3) := by decide +kernel
theorem dX0_addBlock_30 : decode cX0_addBlock 30 = .ok (.iload_n 1, 1) := by decide +kernel
theorem dX0_addBlock_31 : decode cX0_addBlock 31 = .ok (.iaload, 1) := by decide +kernel
theorem dX0_addBlock_32 : decode cX0_addBlock 32 = .ok (.aload_n 0, 1) := by decide +kernel
theorem dX0_addBlock_33 : decode cX0_addBlock 33 = .ok (.getfield 49, 3) := by decide +kernel
theorem dX0_addBlock_36 : decode cX0_addBlock 36 = .ok (.getfield 126, 3) := by decide +kernel
theorem dX0_addBlock_39 : decode cX0_addBlock 39 = .ok (.iload_n 2, 1) := by decide +kernel
theorem dX0_addBlock_40 : decode cX0_addBlock 40 = .ok (.iaload, 1) := by decide +kernel
theorem dX0_addBlock_41 : decode cX0_addBlock 41 = .ok (.invokestatic 129, 3) := by decide +kernel
theorem dX0_addBlock_44 : decode cX0_addBlock 44 = .ok (.istore 6, 2) := by decide +kernel
theorem dX0_addBlock_46 : decode cX0_addBlock 46 = .ok (.iload 5, 2) := by decide +kernel
theorem dX0_addBlock_48 : decode cX0_addBlock 48 = .ok (.iload 6, 2) := by decide +kernel
theorem dX0_addBlock_50 : decode cX0_addBlock 50 = .ok (.if_icmp .gt 12, 3) := by decide +kernel
theorem dX0_addBlock_53 : decode cX0_addBlock 53 = .ok (.aload_n 0, 1) := by decide +kernel
theorem dX0_addBlock_54 : decode cX0_addBlock 54 = .ok (.getfield 37, 3) := by decide +kernel
theorem dX0_addBlock_57 : decode cX0_addBlock 57 = .ok (.bipush 55, 2) := by decide +kernel
theorem dX0_addBlock_59 : decode cX0_addBlock 59 = .ok (.if_icmp .lt 4, 3) := by decide +kernel
theorem dX0_addBlock_62 : decode cX0_addBlock 62 = .ok (.return_, 1) := by decide +kernel
theorem dX0_addBlock_63 : decode cX0_addBlock 63 = .ok (.aload_n 0, 1) := by decide +kernel
theorem dX0_addBlock_64 : decode cX0_addBlock 64 = .ok (.getfield 22, 3) := by decide +kernel
theorem dX0_addBlock_67 : decode cX0_addBlock 67 = .ok (.aload_n 0, 1) := by decide +kernel
theorem dX0_addBlock_68 : decode cX0_addBlock 68 = .ok (.getfield 37, 3) := by decide +kernel
theorem dX0_addBlock_71 : decode cX0_addBlock 71 = .ok (.iload 4, 2) := by decide +kernel
theorem dX0_addBlock_73 : decode cX0_addBlock 73 = .ok (.iload_n 3, 1) := by decide +kernel
theorem dX0_addBlock_74 : decode cX0_addBlock 74 = .ok (.iconst (-1), 1) := by decide +kernel
theorem dX0_addBlock_75 : decode cX0_addBlock 75 = .ok (.ixor, 1) := by decide +kernel
theorem dX0_addBlock_76 : decode cX0_addBlock 76 = .ok (.iand, 1) := by decide +kernel
theorem dX0_addBlock_77 : decode cX0_addBlock 77 = .ok (.iastore, 1) := by decide +kernel
theorem dX0_addBlock_78 : decode cX0_addBlock 78 = .ok (.aload_n 0, 1) := by decide +kernel
theorem dX0_addBlock_79 : decode cX0_addBlock 79 = .ok (.getfield 25, 3) := by decide +kernel
theorem dX0_addBlock_82 : decode cX0_addBlock 82 = .ok (.aload_n 0, 1) := by decide +kernel
theorem dX0_addBlock_83 : decode cX0_addBlock 83 = .ok (.getfield 37, 3) := by decide +kernel
theorem dX0_addBlock_86 : decode cX0_addBlock 86 = .ok (.iload 4, 2) := by decide +kernel
theorem dX0_addBlock_88 : decode cX0_addBlock 88 = .ok (.iload_n 3, 1) := by decide +kernel
theorem dX0_addBlock_89 : decode cX0_addBlock 89 = .ok (.ior, 1) := by decide +kernel
theorem dX0_addBlock_90 : decode cX0_addBlock 90 = .ok (.iastore, 1) := by decide +kernel
theorem dX0_addBlock_91 : decode cX0_addBlock 91 = .ok (.aload_n 0, 1) := by decide +kernel
theorem dX0_addBlock_92 : decode cX0_addBlock 92 = .ok (.getfield 28, 3) := by decide +kernel
theorem dX0_addBlock_95 : decode cX0_addBlock 95 = .ok (.aload_n 0, 1) := by decide +kernel
theorem dX0_addBlock_96 : decode cX0_addBlock 96 = .ok (.getfield 37, 3) := by decide +kernel
theorem dX0_addBlock_99 : decode cX0_addBlock 99 = .ok (.iload 5, 2) := by decide +kernel
theorem dX0_addBlock_101 : decode cX0_addBlock 101 = .ok (.iastore, 1) := by decide +kernel
theorem dX0_addBlock_102 : decode cX0_addBlock 102 = .ok (.aload_n 0, 1) := by decide +kernel
theorem dX0_addBlock_103 : decode cX0_addBlock 103 = .ok (.getfield 31, 3) := by decide +kernel
theorem dX0_addBlock_106 : decode cX0_addBlock 106 = .ok (.aload_n 0, 1) := by decide +kernel
theorem dX0_addBlock_107 : decode cX0_addBlock 107 = .ok (.getfield 37, 3) := by decide +kernel
theorem dX0_addBlock_110 : decode cX0_addBlock 110 = .ok (.iload 6, 2) := by decide +kernel
theorem dX0_addBlock_112 : decode cX0_addBlock 112 = .ok (.iastore, 1) := by decide +kernel
theorem dX0_addBlock_113 : decode cX0_addBlock 113 = .ok (.aload_n 0, 1) := by decide +kernel
theorem dX0_addBlock_114 : decode cX0_addBlock 114 = .ok (.getfield 34, 3) := by decide +kernel
theorem dX0_addBlock_117 : decode cX0_addBlock 117 = .ok (.aload_n 0, 1) := by decide +kernel
theorem dX0_addBlock_118 : decode cX0_addBlock 118 = .ok (.getfield 37, 3) := by decide +kernel
theorem dX0_addBlock_121 : decode cX0_addBlock 121 = .ok (.bipush 11, 2) := by decide +kernel
theorem dX0_addBlock_123 : decode cX0_addBlock 123 = .ok (.iload_n 1, 1) := by decide +kernel
theorem dX0_addBlock_124 : decode cX0_addBlock 124 = .ok (.imul, 1) := by decide +kernel
theorem dX0_addBlock_125 : decode cX0_addBlock 125 = .ok (.iload_n 2, 1) := by decide +kernel
theorem dX0_addBlock_126 : decode cX0_addBlock 126 = .ok (.iadd, 1) := by decide +kernel
theorem dX0_addBlock_127 : decode cX0_addBlock 127 = .ok (.iastore, 1) := by decide +kernel
theorem dX0_addBlock_128 : decode cX0_addBlock 128 = .ok (.aload_n 0, 1) := by decide +kernel
theorem dX0_addBlock_129 : decode cX0_addBlock 129 = .ok (.dup, 1) := by decide +kernel
theorem dX0_addBlock_130 : decode cX0_addBlock 130 = .ok (.getfield 37, 3) := by decide +kernel
theorem dX0_addBlock_133 : decode cX0_addBlock 133 = .ok (.iconst 1, 1) := by decide +kernel
theorem dX0_addBlock_134 : decode cX0_addBlock 134 = .ok (.iadd, 1) := by decide +kernel
theorem dX0_addBlock_135 : decode cX0_addBlock 135 = .ok (.putfield 37, 3) := by decide +kernel
theorem dX0_addBlock_138 : decode cX0_addBlock 138 = .ok (.return_, 1) := by decide +kernel
theorem dX0_findSoonest_0 : decode cX0_findSoonest 0 = .ok (.aload_n 0, 1) := by decide +kernel
theorem dX0_findSoonest_1 : decode cX0_findSoonest 1 = .ok (.getfield 49, 3) := by decide +kernel
theorem dX0_findSoonest_4 : decode cX0_findSoonest 4 = .ok (.invokevirtual 73, 3) := by decide +kernel
theorem dX0_findSoonest_7 : decode cX0_findSoonest 7 = .ok (.istore_n 1, 1) := by decide +kernel
theorem dX0_findSoonest_8 : decode cX0_findSoonest 8 = .ok (.iconst 1, 1) := by decide +kernel
theorem dX0_findSoonest_9 : decode cX0_findSoonest 9 = .ok (.istore_n 2, 1) := by decide +kernel
theorem dX0_findSoonest_10 : decode cX0_findSoonest 10 = .ok (.iload_n 2, 1) := by decide +kernel
theorem dX0_findSoonest_11 : decode cX0_findSoonest 11 = .ok (.iload_n 1, 1) := by decide +kernel
theorem dX0_findSoonest_12 : decode cX0_findSoonest 12 = .ok (.if_icmp .gt 17, 3) := by decide +kernel
theorem dX0_findSoonest_15 : decode cX0_findSoonest 15 = .ok (.aload_n 0, 1) := by decide +kernel
theorem dX0_findSoonest_16 : decode cX0_findSoonest 16 = .ok (.getfield 40, 3) := by decide +kernel
theorem dX0_findSoonest_19 : decode cX0_findSoonest 19 = .ok (.iload_n 2, 1) := by decide +kernel
theorem dX0_findSoonest_20 : decode cX0_findSoonest 20 = .ok (.bipush 64, 2) := by decide +kernel
theorem dX0_findSoonest_22 : decode cX0_findSoonest 22 = .ok (.iastore, 1) := by decide +kernel
theorem dX0_findSoonest_23 : decode cX0_findSoonest 23 = .ok (.iinc 2 1, 3) := by decide +kernel
theorem dX0_findSoonest_26 : decode cX0_findSoonest 26 = .ok (.goto (-16), 3) := by decide +kernel
theorem dX0_findSoonest_29 : decode cX0_findSoonest 29 = .ok (.aload_n 0, 1) := by decide +kernel
theorem dX0_findSoonest_30 : decode cX0_findSoonest 30 = .ok (.getfield 40, 3) := by decide +kernel
theorem dX0_findSoonest_33 : decode cX0_findSoonest 33 = .ok (.iconst 0, 1) := by decide +kernel
theorem dX0_findSoonest_34 : decode cX0_findSoonest 34 = .ok (.iconst 0, 1) := by decide +kernel
theorem dX0_findSoonest_35 : decode cX0_findSoonest 35 = .ok (.iastore, 1) := by decide +kernel
theorem dX0_findSoonest_36 : decode cX0_findSoonest 36 = .ok (.iconst 0, 1) := by decide +kernel
theorem dX0_findSoonest_37 : decode cX0_findSoonest 37 = .ok (.istore_n 2, 1) := by decide +kernel
theorem dX0_findSoonest_38 : decode cX0_findSoonest 38 = .ok (.iload_n 2, 1) := by decide +kernel
theorem dX0_findSoonest_39 : decode cX0_findSoonest 39 = .ok (.iload_n 1, 1) := by decide +kernel
theorem dX0_findSoonest_40 : decode cX0_findSoonest 40 = .ok (.if_icmp .ge 25, 3) := by decide +kernel
theorem dX0_findSoonest_43 : decode cX0_findSoonest 43 = .ok (.aload_n 0, 1) := by decide +kernel
theorem dX0_findSoonest_44 : decode cX0_findSoonest 44 = .ok (.getfield 40, 3) := by decide +kernel
theorem dX0_findSoonest_47 : decode cX0_findSoonest 47 = .ok (.iload_n 2, 1) := by decide +kernel
theorem dX0_findSoonest_48 : decode cX0_findSoonest 48 = .ok (.iaload, 1) := by decide +kernel
theorem dX0_findSoonest_49 : decode cX0_findSoonest 49 = .ok (.bipush 64, 2) := by decide +kernel
theorem dX0_findSoonest_51 : decode cX0_findSoonest 51 = .ok (.if_icmp .ge 8, 3) := by decide +kernel
theorem dX0_findSoonest_54 : decode cX0_findSoonest 54 = .ok (.aload_n 0, 1) := by decide +kernel
theorem dX0_findSoonest_55 : decode cX0_findSoonest 55 = .ok (.iload_n 2, 1) := by decide +kernel
theorem dX0_findSoonest_56 : decode cX0_findSoonest 56 = .ok (.invokevirtual 132, 3) := by decide +kernel
theorem dX0_findSoonest_59 : decode cX0_findSoonest 59 = .ok (.iinc 2 1, 3) := by decide +kernel
theorem dX0_findSoonest_62 : decode cX0_findSoonest 62 = .ok (.goto (-24), 3) := by decide +kernel
theorem dX0_findSoonest_65 : decode cX0_findSoonest 65 = .ok (.return_, 1) := by decide +kernel
theorem dX0_goOnFrom_0 : decode cX0_goOnFrom 0 = .ok (.iconst 0, 1) := by decide +kernel
theorem dX0_goOnFrom_1 : decode cX0_goOnFrom 1 = .ok (.istore_n 2, 1) := by decide +kernel
theorem dX0_goOnFrom_2 : decode cX0_goOnFrom 2 = .ok (.iload_n 2, 1) := by decide +kernel
theorem dX0_goOnFrom_3 : decode cX0_goOnFrom 3 = .ok (.aload_n 0, 1) := by decide +kernel
theorem dX0_goOnFrom_4 : decode cX0_goOnFrom 4 = .ok (.getfield 37, 3) := by decide +kernel
theorem dX0_goOnFrom_7 : decode cX0_goOnFrom 7 = .ok (.if_icmp .ge 83, 3) := by decide +kernel
theorem dX0_goOnFrom_10 : decode cX0_goOnFrom 10 = .ok (.iload_n 1, 1) := by decide +kernel
theorem dX0_goOnFrom_11 : decode cX0_goOnFrom 11 = .ok (.aload_n 0, 1) := by decide +kernel
theorem dX0_goOnFrom_12 : decode cX0_goOnFrom 12 = .ok (.getfield 25, 3) := by decide +kernel
theorem dX0_goOnFrom_15 : decode cX0_goOnFrom 15 = .ok (.iload_n 2, 1) := by decide +kernel
theorem dX0_goOnFrom_16 : decode cX0_goOnFrom 16 = .ok (.iaload, 1) := by decide +kernel
theorem dX0_goOnFrom_17 : decode cX0_goOnFrom 17 = .ok (.iand, 1) := by decide +kernel
theorem dX0_goOnFrom_18 : decode cX0_goOnFrom 18 = .ok (.aload_n 0, 1) := by decide +kernel
theorem dX0_goOnFrom_19 : decode cX0_goOnFrom 19 = .ok (.getfield 22, 3) := by decide +kernel
theorem dX0_goOnFrom_22 : decode cX0_goOnFrom 22 = .ok (.iload_n 2, 1) := by decide +kernel
theorem dX0_goOnFrom_23 : decode cX0_goOnFrom 23 = .ok (.iaload, 1) := by decide +kernel
theorem dX0_goOnFrom_24 : decode cX0_goOnFrom 24 = .ok (.if_icmp .ne 60, 3) := by decide +kernel
theorem dX0_goOnFrom_27 : decode cX0_goOnFrom 27 = .ok (.aload_n 0, 1) := by decide +kernel
theorem dX0_goOnFrom_28 : decode cX0_goOnFrom 28 = .ok (.getfield 40, 3) := by decide +kernel
theorem dX0_goOnFrom_31 : decode cX0_goOnFrom 31 = .ok (.iload_n 1, 1) := by decide +kernel
theorem dX0_goOnFrom_32 : decode cX0_goOnFrom 32 = .ok (.iaload, 1) := by decide +kernel
theorem dX0_goOnFrom_33 : decode cX0_goOnFrom 33 = .ok (.iconst 1, 1) := by decide +kernel
theorem dX0_goOnFrom_34 : decode cX0_goOnFrom 34 = .ok (.iadd, 1) := by decide +kernel
theorem dX0_goOnFrom_35 : decode cX0_goOnFrom 35 = .ok (.aload_n 0, 1) := by decide +kernel
theorem dX0_goOnFrom_36 : decode cX0_goOnFrom 36 = .ok (.getfield 28, 3) := by decide +kernel
theorem dX0_goOnFrom_39 : decode cX0_goOnFrom 39 = .ok (.iload_n 2, 1) := by decide +kernel
theorem dX0_goOnFrom_40 : decode cX0_goOnFrom 40 = .ok (.iaload, 1) := by decide +kernel
theorem dX0_goOnFrom_41 : decode cX0_goOnFrom 41 = .ok (.invokestatic 120, 3) := by decide +kernel
theorem dX0_goOnFrom_44 : decode cX0_goOnFrom 44 = .ok (.istore_n 3, 1) := by decide +kernel
theorem dX0_goOnFrom_45 : decode cX0_goOnFrom 45 = .ok (.iload_n 1, 1) := by decide +kernel
theorem dX0_goOnFrom_46 : decode cX0_goOnFrom 46 = .ok (.aload_n 0, 1) := by decide +kernel
theorem dX0_goOnFrom_47 : decode cX0_goOnFrom 47 = .ok (.getfield 25, 3) := by decide +kernel
theorem dX0_goOnFrom_50 : decode cX0_goOnFrom 50 = .ok (.iload_n 2, 1) := by decide +kernel
theorem dX0_goOnFrom_51 : decode cX0_goOnFrom 51 = .ok (.iaload, 1) := by decide +kernel
theorem dX0_goOnFrom_52 : decode cX0_goOnFrom 52 = .ok (.ior, 1) := by decide +kernel
theorem dX0_goOnFrom_53 : decode cX0_goOnFrom 53 = .ok (.istore 4, 2) := by decide +kernel
theorem dX0_goOnFrom_55 : decode cX0_goOnFrom 55 = .ok (.iload_n 3, 1) := by decide +kernel
theorem dX0_goOnFrom_56 : decode cX0_goOnFrom 56 = .ok (.aload_n 0, 1) := by decide +kernel
theorem dX0_goOnFrom_57 : decode cX0_goOnFrom 57 = .ok (.getfield 31, 3) := by decide +kernel
theorem dX0_goOnFrom_60 : decode cX0_goOnFrom 60 = .ok (.iload_n 2, 1) := by decide +kernel
theorem dX0_goOnFrom_61 : decode cX0_goOnFrom 61 = .ok (.iaload, 1) := by decide +kernel
theorem dX0_goOnFrom_62 : decode cX0_goOnFrom 62 = .ok (.if_icmp .gt 22, 3) := by decide +kernel
theorem dX0_goOnFrom_65 : decode cX0_goOnFrom 65 = .ok (.iload_n 3, 1) := by decide +kernel
theorem dX0_goOnFrom_66 : decode cX0_goOnFrom 66 = .ok (.aload_n 0, 1) := by decide +kernel
theorem dX0_goOnFrom_67 : decode cX0_goOnFrom 67 = .ok (.getfield 40, 3) := by decide +kernel
theorem dX0_goOnFrom_70 : decode cX0_goOnFrom 70 = .ok (.iload 4, 2) := by decide +kernel
theorem dX0_goOnFrom_72 : decode cX0_goOnFrom 72 = .ok (.iaload, 1) := by decide +kernel
theorem dX0_goOnFrom_73 : decode cX0_goOnFrom 73 = .ok (.if_icmp .ge 11, 3) := by decide +kernel
theorem dX0_goOnFrom_76 : decode cX0_goOnFrom 76 = .ok (.aload_n 0, 1) := by decide +kernel
theorem dX0_goOnFrom_77 : decode cX0_goOnFrom 77 = .ok (.getfield 40, 3) := by decide +kernel
theorem dX0_goOnFrom_80 : decode cX0_goOnFrom 80 = .ok (.iload 4, 2) := by decide +kernel
theorem dX0_goOnFrom_82 : decode cX0_goOnFrom 82 = .ok (.iload_n 3, 1) := by decide +kernel
theorem dX0_goOnFrom_83 : decode cX0_goOnFrom 83 = .ok (.iastore, 1) := by decide +kernel
theorem dX0_goOnFrom_84 : decode cX0_goOnFrom 84 = .ok (.iinc 2 1, 3) := by decide +kernel
theorem dX0_goOnFrom_87 : decode cX0_goOnFrom 87 = .ok (.goto (-85), 3) := by decide +kernel
theorem dX0_goOnFrom_90 : decode cX0_goOnFrom 90 = .ok (.return_, 1) := by decide +kernel
theorem dX0_findLatest_0 : decode cX0_findLatest 0 = .ok (.aload_n 0, 1) := by decide +kernel
theorem dX0_findLatest_1 : decode cX0_findLatest 1 = .ok (.getfield 49, 3) := by decide +kernel
theorem dX0_findLatest_4 : decode cX0_findLatest 4 = .ok (.invokevirtual 73, 3) := by decide +kernel
theorem dX0_findLatest_7 : decode cX0_findLatest 7 = .ok (.istore_n 1, 1) := by decide +kernel
theorem dX0_findLatest_8 : decode cX0_findLatest 8 = .ok (.aload_n 0, 1) := by decide +kernel
theorem dX0_findLatest_9 : decode cX0_findLatest 9 = .ok (.getfield 43, 3) := by decide +kernel
theorem dX0_findLatest_12 : decode cX0_findLatest 12 = .ok (.iload_n 1, 1) := by decide +kernel
theorem dX0_findLatest_13 : decode cX0_findLatest 13 = .ok (.aload_n 0, 1) := by decide +kernel
theorem dX0_findLatest_14 : decode cX0_findLatest 14 = .ok (.getfield 18, 3) := by decide +kernel
theorem dX0_findLatest_17 : decode cX0_findLatest 17 = .ok (.iastore, 1) := by decide +kernel
theorem dX0_findLatest_18 : decode cX0_findLatest 18 = .ok (.iload_n 1, 1) := by decide +kernel
theorem dX0_findLatest_19 : decode cX0_findLatest 19 = .ok (.iconst 1, 1) := by decide +kernel
theorem dX0_findLatest_20 : decode cX0_findLatest 20 = .ok (.isub, 1) := by decide +kernel
theorem dX0_findLatest_21 : decode cX0_findLatest 21 = .ok (.istore_n 2, 1) := by decide +kernel
theorem dX0_findLatest_22 : decode cX0_findLatest 22 = .ok (.iload_n 2, 1) := by decide +kernel
theorem dX0_findLatest_23 : decode cX0_findLatest 23 = .ok (.ifCond .lt 35, 3) := by decide +kernel
theorem dX0_findLatest_26 : decode cX0_findLatest 26 = .ok (.aload_n 0, 1) := by decide +kernel
theorem dX0_findLatest_27 : decode cX0_findLatest 27 = .ok (.getfield 43, 3) := by decide +kernel
theorem dX0_findLatest_30 : decode cX0_findLatest 30 = .ok (.iload_n 2, 1) := by decide +kernel
theorem dX0_findLatest_31 : decode cX0_findLatest 31 = .ok (.aload_n 0, 1) := by decide +kernel
theorem dX0_findLatest_32 : decode cX0_findLatest 32 = .ok (.getfield 40, 3) := by decide +kernel
theorem dX0_findLatest_35 : decode cX0_findLatest 35 = .ok (.iload_n 2, 1) := by decide +kernel
theorem dX0_findLatest_36 : decode cX0_findLatest 36 = .ok (.iaload, 1) := by decide +kernel
theorem dX0_findLatest_37 : decode cX0_findLatest 37 = .ok (.bipush 64, 2) := by decide +kernel
theorem dX0_findLatest_39 : decode cX0_findLatest 39 = .ok (.if_icmp .ge 11, 3) := by decide +kernel
theorem dX0_findLatest_42 : decode cX0_findLatest 42 = .ok (.aload_n 0, 1) := by decide +kernel
theorem dX0_findLatest_43 : decode cX0_findLatest 43 = .ok (.iload_n 2, 1) := by decide +kernel
theorem dX0_findLatest_44 : decode cX0_findLatest 44 = .ok (.invokevirtual 136, 3) := by decide +kernel
theorem dX0_findLatest_47 : decode cX0_findLatest 47 = .ok (.goto 4, 3) := by decide +kernel
theorem dX0_findLatest_50 : decode cX0_findLatest 50 = .ok (.iconst (-1), 1) := by decide +kernel
theorem dX0_findLatest_51 : decode cX0_findLatest 51 = .ok (.iastore, 1) := by decide +kernel
theorem dX0_findLatest_52 : decode cX0_findLatest 52 = .ok (.iinc 2 (-1), 3) := by decide +kernel
theorem dX0_findLatest_55 : decode cX0_findLatest 55 = .ok (.goto (-33), 3) := by decide +kernel
theorem dX0_findLatest_58 : decode cX0_findLatest 58 = .ok (.return_, 1) := by decide +kernel
theorem dX0_latestFor_0 : decode cX0_latestFor 0 = .ok (.iconst (-1), 1) := by decide +kernel
theorem dX0_latestFor_1 : decode cX0_latestFor 1 = .ok (.istore_n 2, 1) := by decide +kernel
theorem dX0_latestFor_2 : decode cX0_latestFor 2 = .ok (.iconst 0, 1) := by decide +kernel
theorem dX0_latestFor_3 : decode cX0_latestFor 3 = .ok (.istore_n 3, 1) := by decide +kernel
theorem dX0_latestFor_4 : decode cX0_latestFor 4 = .ok (.iload_n 3, 1) := by decide +kernel
theorem dX0_latestFor_5 : decode cX0_latestFor 5 = .ok (.aload_n 0, 1) := by decide +kernel
theorem dX0_latestFor_6 : decode cX0_latestFor 6 = .ok (.getfield 37, 3) := by decide +kernel
theorem dX0_latestFor_9 : decode cX0_latestFor 9 = .ok (.if_icmp .ge 70, 3) := by decide +kernel
theorem dX0_latestFor_12 : decode cX0_latestFor 12 = .ok (.iload_n 1, 1) := by decide +kernel
theorem dX0_latestFor_13 : decode cX0_latestFor 13 = .ok (.aload_n 0, 1) := by decide +kernel
theorem dX0_latestFor_14 : decode cX0_latestFor 14 = .ok (.getfield 25, 3) := by decide +kernel
theorem dX0_latestFor_17 : decode cX0_latestFor 17 = .ok (.iload_n 3, 1) := by decide +kernel
theorem dX0_latestFor_18 : decode cX0_latestFor 18 = .ok (.iaload, 1) := by decide +kernel
theorem dX0_latestFor_19 : decode cX0_latestFor 19 = .ok (.iand, 1) := by decide +kernel
theorem dX0_latestFor_20 : decode cX0_latestFor 20 = .ok (.aload_n 0, 1) := by decide +kernel
theorem dX0_latestFor_21 : decode cX0_latestFor 21 = .ok (.getfield 22, 3) := by decide +kernel
theorem dX0_latestFor_24 : decode cX0_latestFor 24 = .ok (.iload_n 3, 1) := by decide +kernel
theorem dX0_latestFor_25 : decode cX0_latestFor 25 = .ok (.iaload, 1) := by decide +kernel
theorem dX0_latestFor_26 : decode cX0_latestFor 26 = .ok (.if_icmp .ne 47, 3) := by decide +kernel
theorem dX0_latestFor_29 : decode cX0_latestFor 29 = .ok (.aload_n 0, 1) := by decide +kernel
theorem dX0_latestFor_30 : decode cX0_latestFor 30 = .ok (.getfield 43, 3) := by decide +kernel
theorem dX0_latestFor_33 : decode cX0_latestFor 33 = .ok (.iload_n 1, 1) := by decide +kernel
theorem dX0_latestFor_34 : decode cX0_latestFor 34 = .ok (.aload_n 0, 1) := by decide +kernel
theorem dX0_latestFor_35 : decode cX0_latestFor 35 = .ok (.getfield 25, 3) := by decide +kernel
theorem dX0_latestFor_38 : decode cX0_latestFor 38 = .ok (.iload_n 3, 1) := by decide +kernel
theorem dX0_latestFor_39 : decode cX0_latestFor 39 = .ok (.iaload, 1) := by decide +kernel
theorem dX0_latestFor_40 : decode cX0_latestFor 40 = .ok (.ior, 1) := by decide +kernel
theorem dX0_latestFor_41 : decode cX0_latestFor 41 = .ok (.iaload, 1) := by decide +kernel
theorem dX0_latestFor_42 : decode cX0_latestFor 42 = .ok (.aload_n 0, 1) := by decide +kernel
theorem dX0_latestFor_43 : decode cX0_latestFor 43 = .ok (.getfield 31, 3) := by decide +kernel
theorem dX0_latestFor_46 : decode cX0_latestFor 46 = .ok (.iload_n 3, 1) := by decide +kernel
theorem dX0_latestFor_47 : decode cX0_latestFor 47 = .ok (.iaload, 1) := by decide +kernel
theorem dX0_latestFor_48 : decode cX0_latestFor 48 = .ok (.invokestatic 129, 3) := by decide +kernel
theorem dX0_latestFor_51 : decode cX0_latestFor 51 = .ok (.istore 4, 2) := by decide +kernel
theorem dX0_latestFor_53 : decode cX0_latestFor 53 = .ok (.iload 4, 2) := by decide +kernel
theorem dX0_latestFor_55 : decode cX0_latestFor 55 = .ok (.aload_n 0, 1) := by decide +kernel
theorem dX0_latestFor_56 : decode cX0_latestFor 56 = .ok (.getfield 28, 3) := by decide +kernel
theorem dX0_latestFor_59 : decode cX0_latestFor 59 = .ok (.iload_n 3, 1) := by decide +kernel
theorem dX0_latestFor_60 : decode cX0_latestFor 60 = .ok (.iaload, 1) := by decide +kernel
theorem dX0_latestFor_61 : decode cX0_latestFor 61 = .ok (.if_icmp .lt 12, 3) := by decide +kernel
theorem dX0_latestFor_64 : decode cX0_latestFor 64 = .ok (.iload_n 2, 1) := by decide +kernel
theorem dX0_latestFor_65 : decode cX0_latestFor 65 = .ok (.iload 4, 2) := by decide +kernel
theorem dX0_latestFor_67 : decode cX0_latestFor 67 = .ok (.iconst 1, 1) := by decide +kernel
theorem dX0_latestFor_68 : decode cX0_latestFor 68 = .ok (.isub, 1) := by decide +kernel
theorem dX0_latestFor_69 : decode cX0_latestFor 69 = .ok (.invokestatic 120, 3) := by decide +kernel
theorem dX0_latestFor_72 : decode cX0_latestFor 72 = .ok (.istore_n 2, 1) := by decide +kernel
theorem dX0_latestFor_73 : decode cX0_latestFor 73 = .ok (.iinc 3 1, 3) := by decide +kernel
theorem dX0_latestFor_76 : decode cX0_latestFor 76 = .ok (.goto (-72), 3) := by decide +kernel
theorem dX0_latestFor_79 : decode cX0_latestFor 79 = .ok (.iload_n 2, 1) := by decide +kernel
theorem dX0_latestFor_80 : decode cX0_latestFor 80 = .ok (.ireturn, 1) := by decide +kernel
theorem dX0_fillHours_0 : decode cX0_fillHours 0 = .ok (.iconst 0, 1) := by decide +kernel
theorem dX0_fillHours_1 : decode cX0_fillHours 1 = .ok (.istore_n 1, 1) := by decide +kernel
theorem dX0_fillHours_2 : decode cX0_fillHours 2 = .ok (.iconst 1, 1) := by decide +kernel
theorem dX0_fillHours_3 : decode cX0_fillHours 3 = .ok (.istore_n 2, 1) := by decide +kernel
theorem dX0_fillHours_4 : decode cX0_fillHours 4 = .ok (.iload_n 2, 1) := by decide +kernel
theorem dX0_fillHours_5 : decode cX0_fillHours 5 = .ok (.aload_n 0, 1) := by decide +kernel
theorem dX0_fillHours_6 : decode cX0_fillHours 6 = .ok (.getfield 18, 3) := by decide +kernel
theorem dX0_fillHours_9 : decode cX0_fillHours 9 = .ok (.if_icmp .gt 45, 3) := by decide +kernel
theorem dX0_fillHours_12 : decode cX0_fillHours 12 = .ok (.aload_n 0, 1) := by decide +kernel
theorem dX0_fillHours_13 : decode cX0_fillHours 13 = .ok (.iload_n 1, 1) := by decide +kernel
theorem dX0_fillHours_14 : decode cX0_fillHours 14 = .ok (.iload_n 2, 1) := by decide +kernel
theorem dX0_fillHours_15 : decode cX0_fillHours 15 = .ok (.invokevirtual 139, 3) := by decide +kernel
theorem dX0_fillHours_18 : decode cX0_fillHours 18 = .ok (.istore_n 3, 1) := by decide +kernel
theorem dX0_fillHours_19 : decode cX0_fillHours 19 = .ok (.aload_n 0, 1) := by decide +kernel
theorem dX0_fillHours_20 : decode cX0_fillHours 20 = .ok (.getfield 9, 3) := by decide +kernel
theorem dX0_fillHours_23 : decode cX0_fillHours 23 = .ok (.iload_n 2, 1) := by decide +kernel
theorem dX0_fillHours_24 : decode cX0_fillHours 24 = .ok (.iload_n 3, 1) := by decide +kernel
theorem dX0_fillHours_25 : decode cX0_fillHours 25 = .ok (.iastore, 1) := by decide +kernel
theorem dX0_fillHours_26 : decode cX0_fillHours 26 = .ok (.iload_n 1, 1) := by decide +kernel
theorem dX0_fillHours_27 : decode cX0_fillHours 27 = .ok (.aload_n 0, 1) := by decide +kernel
theorem dX0_fillHours_28 : decode cX0_fillHours 28 = .ok (.iload_n 3, 1) := by decide +kernel
theorem dX0_fillHours_29 : decode cX0_fillHours 29 = .ok (.bipush 11, 2) := by decide +kernel
theorem dX0_fillHours_31 : decode cX0_fillHours 31 = .ok (.idiv, 1) := by decide +kernel
theorem dX0_fillHours_32 : decode cX0_fillHours 32 = .ok (.iload_n 2, 1) := by decide +kernel
theorem dX0_fillHours_33 : decode cX0_fillHours 33 = .ok (.invokevirtual 142, 3) := by decide +kernel
theorem dX0_fillHours_36 : decode cX0_fillHours 36 = .ok (.aload_n 0, 1) := by decide +kernel
theorem dX0_fillHours_37 : decode cX0_fillHours 37 = .ok (.iload_n 3, 1) := by decide +kernel
theorem dX0_fillHours_38 : decode cX0_fillHours 38 = .ok (.bipush 11, 2) := by decide +kernel
theorem dX0_fillHours_40 : decode cX0_fillHours 40 = .ok (.irem, 1) := by decide +kernel
theorem dX0_fillHours_41 : decode cX0_fillHours 41 = .ok (.iload_n 2, 1) := by decide +kernel
theorem dX0_fillHours_42 : decode cX0_fillHours 42 = .ok (.invokevirtual 142, 3) := by decide +kernel
theorem dX0_fillHours_45 : decode cX0_fillHours 45 = .ok (.ior, 1) := by decide +kernel
theorem dX0_fillHours_46 : decode cX0_fillHours 46 = .ok (.ior, 1) := by decide +kernel
theorem dX0_fillHours_47 : decode cX0_fillHours 47 = .ok (.istore_n 1, 1) := by decide +kernel
theorem dX0_fillHours_48 : decode cX0_fillHours 48 = .ok (.iinc 2 1, 3) := by decide +kernel
theorem dX0_fillHours_51 : decode cX0_fillHours 51 = .ok (.goto (-47), 3) := by decide +kernel
theorem dX0_fillHours_54 : decode cX0_fillHours 54 = .ok (.return_, 1) := by decide +kernel
theorem dX0_leastCode_0 : decode cX0_leastCode 0 = .ok (.iconst 0, 1) := by decide +kernel
theorem dX0_leastCode_1 : decode cX0_leastCode 1 = .ok (.istore_n 3, 1) := by decide +kernel
theorem dX0_leastCode_2 : decode cX0_leastCode 2 = .ok (.iload_n 3, 1) := by decide +kernel
theorem dX0_leastCode_3 : decode cX0_leastCode 3 = .ok (.aload_n 0, 1) := by decide +kernel
theorem dX0_leastCode_4 : decode cX0_leastCode 4 = .ok (.getfield 37, 3) := by decide +kernel
theorem dX0_leastCode_7 : decode cX0_leastCode 7 = .ok (.if_icmp .ge 70, 3) := by decide +kernel
theorem dX0_leastCode_10 : decode cX0_leastCode 10 = .ok (.iload_n 1, 1) := by decide +kernel
theorem dX0_leastCode_11 : decode cX0_leastCode 11 = .ok (.aload_n 0, 1) := by decide +kernel
theorem dX0_leastCode_12 : decode cX0_leastCode 12 = .ok (.getfield 25, 3) := by decide +kernel
theorem dX0_leastCode_15 : decode cX0_leastCode 15 = .ok (.iload_n 3, 1) := by decide +kernel
theorem dX0_leastCode_16 : decode cX0_leastCode 16 = .ok (.iaload, 1) := by decide +kernel
theorem dX0_leastCode_17 : decode cX0_leastCode 17 = .ok (.iand, 1) := by decide +kernel
theorem dX0_leastCode_18 : decode cX0_leastCode 18 = .ok (.aload_n 0, 1) := by decide +kernel
theorem dX0_leastCode_19 : decode cX0_leastCode 19 = .ok (.getfield 22, 3) := by decide +kernel
theorem dX0_leastCode_22 : decode cX0_leastCode 22 = .ok (.iload_n 3, 1) := by decide +kernel
theorem dX0_leastCode_23 : decode cX0_leastCode 23 = .ok (.iaload, 1) := by decide +kernel
theorem dX0_leastCode_24 : decode cX0_leastCode 24 = .ok (.if_icmp .ne 47, 3) := by decide +kernel
theorem dX0_leastCode_27 : decode cX0_leastCode 27 = .ok (.iload_n 2, 1) := by decide +kernel
theorem dX0_leastCode_28 : decode cX0_leastCode 28 = .ok (.aload_n 0, 1) := by decide +kernel
theorem dX0_leastCode_29 : decode cX0_leastCode 29 = .ok (.getfield 28, 3) := by decide +kernel
theorem dX0_leastCode_32 : decode cX0_leastCode 32 = .ok (.iload_n 3, 1) := by decide +kernel
theorem dX0_leastCode_33 : decode cX0_leastCode 33 = .ok (.iaload, 1) := by decide +kernel
theorem dX0_leastCode_34 : decode cX0_leastCode 34 = .ok (.if_icmp .lt 37, 3) := by decide +kernel
theorem dX0_leastCode_37 : decode cX0_leastCode 37 = .ok (.iload_n 2, 1) := by decide +kernel
theorem dX0_leastCode_38 : decode cX0_leastCode 38 = .ok (.aload_n 0, 1) := by decide +kernel
theorem dX0_leastCode_39 : decode cX0_leastCode 39 = .ok (.getfield 31, 3) := by decide +kernel
theorem dX0_leastCode_42 : decode cX0_leastCode 42 = .ok (.iload_n 3, 1) := by decide +kernel
theorem dX0_leastCode_43 : decode cX0_leastCode 43 = .ok (.iaload, 1) := by decide +kernel
theorem dX0_leastCode_44 : decode cX0_leastCode 44 = .ok (.if_icmp .gt 27, 3) := by decide +kernel
theorem dX0_leastCode_47 : decode cX0_leastCode 47 = .ok (.iload_n 2, 1) := by decide +kernel
theorem dX0_leastCode_48 : decode cX0_leastCode 48 = .ok (.aload_n 0, 1) := by decide +kernel
theorem dX0_leastCode_49 : decode cX0_leastCode 49 = .ok (.getfield 43, 3) := by decide +kernel
theorem dX0_leastCode_52 : decode cX0_leastCode 52 = .ok (.iload_n 1, 1) := by decide +kernel
theorem dX0_leastCode_53 : decode cX0_leastCode 53 = .ok (.aload_n 0, 1) := by decide +kernel
theorem dX0_leastCode_54 : decode cX0_leastCode 54 = .ok (.getfield 25, 3) := by decide +kernel
theorem dX0_leastCode_57 : decode cX0_leastCode 57 = .ok (.iload_n 3, 1) := by decide +kernel
theorem dX0_leastCode_58 : decode cX0_leastCode 58 = .ok (.iaload, 1) := by decide +kernel
theorem dX0_leastCode_59 : decode cX0_leastCode 59 = .ok (.ior, 1) := by decide +kernel
theorem dX0_leastCode_60 : decode cX0_leastCode 60 = .ok (.iaload, 1) := by decide +kernel
theorem dX0_leastCode_61 : decode cX0_leastCode 61 = .ok (.if_icmp .gt 10, 3) := by decide +kernel
theorem dX0_leastCode_64 : decode cX0_leastCode 64 = .ok (.aload_n 0, 1) := by decide +kernel
theorem dX0_leastCode_65 : decode cX0_leastCode 65 = .ok (.getfield 34, 3) := by decide +kernel
theorem dX0_leastCode_68 : decode cX0_leastCode 68 = .ok (.iload_n 3, 1) := by decide +kernel
theorem dX0_leastCode_69 : decode cX0_leastCode 69 = .ok (.iaload, 1) := by decide +kernel
theorem dX0_leastCode_70 : decode cX0_leastCode 70 = .ok (.ireturn, 1) := by decide +kernel
theorem dX0_leastCode_71 : decode cX0_leastCode 71 = .ok (.iinc 3 1, 3) := by decide +kernel
theorem dX0_leastCode_74 : decode cX0_leastCode 74 = .ok (.goto (-72), 3) := by decide +kernel
theorem dX0_leastCode_77 : decode cX0_leastCode 77 = .ok (.bipush 120, 2) := by decide +kernel
theorem dX0_leastCode_79 : decode cX0_leastCode 79 = .ok (.ireturn, 1) := by decide +kernel
theorem dX0_place_0 : decode cX0_place 0 = .ok (.iload_n 1, 1) := by decide +kernel
theorem dX0_place_1 : decode cX0_place 1 = .ok (.bipush 10, 2) := by decide +kernel
theorem dX0_place_3 : decode cX0_place 3 = .ok (.if_icmp .ne 5, 3) := by decide +kernel
theorem dX0_place_6 : decode cX0_place 6 = .ok (.iconst 0, 1) := by decide +kernel
theorem dX0_place_7 : decode cX0_place 7 = .ok (.ireturn, 1) := by decide +kernel
theorem dX0_place_8 : decode cX0_place 8 = .ok (.aload_n 0, 1) := by decide +kernel
theorem dX0_place_9 : decode cX0_place 9 = .ok (.getfield 15, 3) := by decide +kernel
theorem dX0_place_12 : decode cX0_place 12 = .ok (.iload_n 1, 1) := by decide +kernel
theorem dX0_place_13 : decode cX0_place 13 = .ok (.iload_n 2, 1) := by decide +kernel
theorem dX0_place_14 : decode cX0_place 14 = .ok (.iastore, 1) := by decide +kernel
theorem dX0_place_15 : decode cX0_place 15 = .ok (.iload_n 1, 1) := by decide +kernel
theorem dX0_place_16 : decode cX0_place 16 = .ok (.invokestatic 106, 3) := by decide +kernel
theorem dX0_place_19 : decode cX0_place 19 = .ok (.ireturn, 1) := by decide +kernel
theorem dX1_init_0 : decode cX1_init 0 = .ok (.aload_n 0, 1) := by decide +kernel
theorem dX1_init_1 : decode cX1_init 1 = .ok (.invokespecial 3, 3) := by decide +kernel
theorem dX1_init_4 : decode cX1_init 4 = .ok (.aload_n 0, 1) := by decide +kernel
theorem dX1_init_5 : decode cX1_init 5 = .ok (.bipush 10, 2) := by decide +kernel
theorem dX1_init_7 : decode cX1_init 7 = .ok (.newarray .int, 2) := by decide +kernel
theorem dX1_init_9 : decode cX1_init 9 = .ok (.putfield 9, 3) := by decide +kernel
theorem dX1_init_12 : decode cX1_init 12 = .ok (.aload_n 0, 1) := by decide +kernel
theorem dX1_init_13 : decode cX1_init 13 = .ok (.bipush 10, 2) := by decide +kernel
theorem dX1_init_15 : decode cX1_init 15 = .ok (.newarray .int, 2) := by decide +kernel
theorem dX1_init_17 : decode cX1_init 17 = .ok (.putfield 15, 3) := by decide +kernel
theorem dX1_init_20 : decode cX1_init 20 = .ok (.aload_n 0, 1) := by decide +kernel
theorem dX1_init_21 : decode cX1_init 21 = .ok (.bipush 11, 2) := by decide +kernel
theorem dX1_init_23 : decode cX1_init 23 = .ok (.newarray .int, 2) := by decide +kernel
theorem dX1_init_25 : decode cX1_init 25 = .ok (.putfield 18, 3) := by decide +kernel
theorem dX1_init_28 : decode cX1_init 28 = .ok (.aload_n 0, 1) := by decide +kernel
theorem dX1_init_29 : decode cX1_init 29 = .ok (.bipush 11, 2) := by decide +kernel
theorem dX1_init_31 : decode cX1_init 31 = .ok (.newarray .int, 2) := by decide +kernel
theorem dX1_init_33 : decode cX1_init 33 = .ok (.putfield 21, 3) := by decide +kernel
theorem dX1_init_36 : decode cX1_init 36 = .ok (.aload_n 0, 1) := by decide +kernel
theorem dX1_init_37 : decode cX1_init 37 = .ok (.iconst 0, 1) := by decide +kernel
theorem dX1_init_38 : decode cX1_init 38 = .ok (.putfield 24, 3) := by decide +kernel
theorem dX1_init_41 : decode cX1_init 41 = .ok (.aload_n 0, 1) := by decide +kernel
theorem dX1_init_42 : decode cX1_init 42 = .ok (.bipush 11, 2) := by decide +kernel
theorem dX1_init_44 : decode cX1_init 44 = .ok (.newarray .int, 2) := by decide +kernel
theorem dX1_init_46 : decode cX1_init 46 = .ok (.putfield 28, 3) := by decide +kernel
theorem dX1_init_49 : decode cX1_init 49 = .ok (.aload_n 0, 1) := by decide +kernel
theorem dX1_init_50 : decode cX1_init 50 = .ok (.bipush 10, 2) := by decide +kernel
theorem dX1_init_52 : decode cX1_init 52 = .ok (.newarray .int, 2) := by decide +kernel
theorem dX1_init_54 : decode cX1_init 54 = .ok (.putfield 31, 3) := by decide +kernel
theorem dX1_init_57 : decode cX1_init 57 = .ok (.aload_n 0, 1) := by decide +kernel
theorem dX1_init_58 : decode cX1_init 58 = .ok (.iconst (-1), 1) := by decide +kernel
theorem dX1_init_59 : decode cX1_init 59 = .ok (.putfield 34, 3) := by decide +kernel
theorem dX1_init_62 : decode cX1_init 62 = .ok (.aload_n 0, 1) := by decide +kernel
theorem dX1_init_63 : decode cX1_init 63 = .ok (.aload_n 1, 1) := by decide +kernel
theorem dX1_init_64 : decode cX1_init 64 = .ok (.putfield 37, 3) := by decide +kernel
theorem dX1_init_67 : decode cX1_init 67 = .ok (.aload_n 0, 1) := by decide +kernel
theorem dX1_init_68 : decode cX1_init 68 = .ok (.aload_n 2, 1) := by decide +kernel
theorem dX1_init_69 : decode cX1_init 69 = .ok (.putfield 41, 3) := by decide +kernel
theorem dX1_init_72 : decode cX1_init 72 = .ok (.return_, 1) := by decide +kernel
theorem dX1_renew_0 : decode cX1_renew 0 = .ok (.aload_n 0, 1) := by decide +kernel
theorem dX1_renew_1 : decode cX1_renew 1 = .ok (.getfield 34, 3) := by decide +kernel
theorem dX1_renew_4 : decode cX1_renew 4 = .ok (.aload_n 0, 1) := by decide +kernel
theorem dX1_renew_5 : decode cX1_renew 5 = .ok (.getfield 37, 3) := by decide +kernel
theorem dX1_renew_8 : decode cX1_renew 8 = .ok (.getfield 45, 3) := by decide +kernel
theorem dX1_renew_11 : decode cX1_renew 11 = .ok (.if_icmp .ne 4, 3) := by decide +kernel
theorem dX1_renew_14 : decode cX1_renew 14 = .ok (.return_, 1) := by decide +kernel
theorem dX1_renew_15 : decode cX1_renew 15 = .ok (.aload_n 0, 1) := by decide +kernel
theorem dX1_renew_16 : decode cX1_renew 16 = .ok (.aload_n 0, 1) := by decide +kernel
theorem dX1_renew_17 : decode cX1_renew 17 = .ok (.getfield 37, 3) := by decide +kernel
theorem dX1_renew_20 : decode cX1_renew 20 = .ok (.getfield 45, 3) := by decide +kernel
theorem dX1_renew_23 : decode cX1_renew 23 = .ok (.putfield 34, 3) := by decide +kernel
theorem dX1_renew_26 : decode cX1_renew 26 = .ok (.aload_n 0, 1) := by decide +kernel
theorem dX1_renew_27 : decode cX1_renew 27 = .ok (.getfield 41, 3) := by decide +kernel
theorem dX1_renew_30 : decode cX1_renew 30 = .ok (.invokevirtual 50, 3) := by decide +kernel
theorem dX1_renew_33 : decode cX1_renew 33 = .ok (.aload_n 0, 1) := by decide +kernel
theorem dX1_renew_34 : decode cX1_renew 34 = .ok (.invokevirtual 55, 3) := by decide +kernel
theorem dX1_renew_37 : decode cX1_renew 37 = .ok (.aload_n 0, 1) := by decide +kernel
theorem dX1_renew_38 : decode cX1_renew 38 = .ok (.invokevirtual 58, 3) := by decide +kernel
theorem dX1_renew_41 : decode cX1_renew 41 = .ok (.return_, 1) := by decide +kernel
theorem dX1_idleHour_0 : decode cX1_idleHour 0 = .ok (.iconst 0, 1) := by decide +kernel
theorem dX1_idleHour_1 : decode cX1_idleHour 1 = .ok (.istore_n 2, 1) := by decide +kernel
theorem dX1_idleHour_2 : decode cX1_idleHour 2 = .ok (.iconst 1, 1) := by decide +kernel
theorem dX1_idleHour_3 : decode cX1_idleHour 3 = .ok (.istore_n 3, 1) := by decide +kernel
theorem dX1_idleHour_4 : decode cX1_idleHour 4 = .ok (.iload_n 3, 1) := by decide +kernel
theorem dX1_idleHour_5 : decode cX1_idleHour 5 = .ok (.aload_n 0, 1) := by decide +kernel
theorem dX1_idleHour_6 : decode cX1_idleHour 6 = .ok (.getfield 24, 3) := by decide +kernel
theorem dX1_idleHour_9 : decode cX1_idleHour 9 = .ok (.if_icmp .gt 30, 3) := by decide +kernel
theorem dX1_idleHour_12 : decode cX1_idleHour 12 = .ok (.aload_n 0, 1) := by decide +kernel
theorem dX1_idleHour_13 : decode cX1_idleHour 13 = .ok (.getfield 21, 3) := by decide +kernel
theorem dX1_idleHour_16 : decode cX1_idleHour 16 = .ok (.iload_n 3, 1) := by decide +kernel
theorem dX1_idleHour_17 : decode cX1_idleHour 17 = .ok (.iaload, 1) := by decide +kernel
theorem dX1_idleHour_18 : decode cX1_idleHour 18 = .ok (.bipush (-3), 2) := by decide +kernel
theorem dX1_idleHour_20 : decode cX1_idleHour 20 = .ok (.if_icmp .ne 13, 3) := by decide +kernel
theorem dX1_idleHour_23 : decode cX1_idleHour 23 = .ok (.iload_n 2, 1) := by decide +kernel
theorem dX1_idleHour_24 : decode cX1_idleHour 24 = .ok (.iload_n 1, 1) := by decide +kernel
theorem dX1_idleHour_25 : decode cX1_idleHour 25 = .ok (.if_icmp .ne 5, 3) := by decide +kernel
theorem dX1_idleHour_28 : decode cX1_idleHour 28 = .ok (.iload_n 3, 1) := by decide +kernel
theorem dX1_idleHour_29 : decode cX1_idleHour 29 = .ok (.ireturn, 1) := by decide +kernel
theorem dX1_idleHour_30 : decode cX1_idleHour 30 = .ok (.iinc 2 1, 3) := by decide +kernel
theorem dX1_idleHour_33 : decode cX1_idleHour 33 = .ok (.iinc 3 1, 3) := by decide +kernel
theorem dX1_idleHour_36 : decode cX1_idleHour 36 = .ok (.goto (-32), 3) := by decide +kernel
theorem dX1_idleHour_39 : decode cX1_idleHour 39 = .ok (.bipush (-3), 2) := by decide +kernel
theorem dX1_idleHour_41 : decode cX1_idleHour 41 = .ok (.ireturn, 1) := by decide +kernel
theorem dX1_countIdle_0 : decode cX1_countIdle 0 = .ok (.iconst 0, 1) := by decide +kernel
theorem dX1_countIdle_1 : decode cX1_countIdle 1 = .ok (.istore_n 1, 1) := by decide +kernel
theorem dX1_countIdle_2 : decode cX1_countIdle 2 = .ok (.iconst 1, 1) := by decide +kernel
theorem dX1_countIdle_3 : decode cX1_countIdle 3 = .ok (.istore_n 2, 1) := by decide +kernel
theorem dX1_countIdle_4 : decode cX1_countIdle 4 = .ok (.iload_n 2, 1) := by decide +kernel
theorem dX1_countIdle_5 : decode cX1_countIdle 5 = .ok (.aload_n 0, 1) := by decide +kernel
theorem dX1_countIdle_6 : decode cX1_countIdle 6 = .ok (.getfield 24, 3) := by decide +kernel
theorem dX1_countIdle_9 : decode cX1_countIdle 9 = .ok (.if_icmp .gt 23, 3) := by decide +kernel
theorem dX1_countIdle_12 : decode cX1_countIdle 12 = .ok (.aload_n 0, 1) := by decide +kernel
theorem dX1_countIdle_13 : decode cX1_countIdle 13 = .ok (.getfield 21, 3) := by decide +kernel
theorem dX1_countIdle_16 : decode cX1_countIdle 16 = .ok (.iload_n 2, 1) := by decide +kernel
theorem dX1_countIdle_17 : decode cX1_countIdle 17 = .ok (.iaload, 1) := by decide +kernel
theorem dX1_countIdle_18 : decode cX1_countIdle 18 = .ok (.bipush (-3), 2) := by decide +kernel
theorem dX1_countIdle_20 : decode cX1_countIdle 20 = .ok (.if_icmp .ne 6, 3) := by decide +kernel
theorem dX1_countIdle_23 : decode cX1_countIdle 23 = .ok (.iinc 1 1, 3) := by decide +kernel
theorem dX1_countIdle_26 : decode cX1_countIdle 26 = .ok (.iinc 2 1, 3) := by decide +kernel
theorem dX1_countIdle_29 : decode cX1_countIdle 29 = .ok (.goto (-25), 3) := by decide +kernel
theorem dX1_countIdle_32 : decode cX1_countIdle 32 = .ok (.iload_n 1, 1) := by decide +kernel
theorem dX1_countIdle_33 : decode cX1_countIdle 33 = .ok (.ireturn, 1) := by decide +kernel
theorem dX1_giveLabels_0 : decode cX1_giveLabels 0 = .ok (.aload_n 0, 1) := by decide +kernel
theorem dX1_giveLabels_1 : decode cX1_giveLabels 1 = .ok (.getfield 31, 3) := by decide +kernel
theorem dX1_giveLabels_4 : decode cX1_giveLabels 4 = .ok (.iconst 0, 1) := by decide +kernel
theorem dX1_giveLabels_5 : decode cX1_giveLabels 5 = .ok (.invokestatic 61, 3) := by decide +kernel
theorem dX1_giveLabels_8 : decode cX1_giveLabels 8 = .ok (.iconst 0, 1) := by decide +kernel
theorem dX1_giveLabels_9 : decode cX1_giveLabels 9 = .ok (.istore_n 1, 1) := by decide +kernel
theorem dX1_giveLabels_10 : decode cX1_giveLabels 10 = .ok (.iconst 1, 1) := by decide +kernel
theorem dX1_giveLabels_11 : decode cX1_giveLabels 11 = .ok (.istore_n 2, 1) := by decide +kernel
theorem dX1_giveLabels_12 : decode cX1_giveLabels 12 = .ok (.iload_n 2, 1) := by decide +kernel
theorem dX1_giveLabels_13 : decode cX1_giveLabels 13 = .ok (.aload_n 0, 1) := by decide +kernel
theorem dX1_giveLabels_14 : decode cX1_giveLabels 14 = .ok (.getfield 37, 3) := by decide +kernel
theorem dX1_giveLabels_17 : decode cX1_giveLabels 17 = .ok (.getfield 67, 3) := by decide +kernel
theorem dX1_giveLabels_20 : decode cX1_giveLabels 20 = .ok (.if_icmp .gt 42, 3) := by decide +kernel
theorem dX1_giveLabels_23 : decode cX1_giveLabels 23 = .ok (.aload_n 0, 1) := by decide +kernel
theorem dX1_giveLabels_24 : decode cX1_giveLabels 24 = .ok (.iload_n 1, 1) := by decide +kernel
theorem dX1_giveLabels_25 : decode cX1_giveLabels 25 = .ok (.invokevirtual 70, 3) := by decide +kernel
theorem dX1_giveLabels_28 : decode cX1_giveLabels 28 = .ok (.istore_n 3, 1) := by decide +kernel
theorem dX1_giveLabels_29 : decode cX1_giveLabels 29 = .ok (.aload_n 0, 1) := by decide +kernel
theorem dX1_giveLabels_30 : decode cX1_giveLabels 30 = .ok (.getfield 9, 3) := by decide +kernel
theorem dX1_giveLabels_33 : decode cX1_giveLabels 33 = .ok (.iload_n 3, 1) := by decide +kernel
theorem dX1_giveLabels_34 : decode cX1_giveLabels 34 = .ok (.iload_n 2, 1) := by decide +kernel
theorem dX1_giveLabels_35 : decode cX1_giveLabels 35 = .ok (.iastore, 1) := by decide +kernel
theorem dX1_giveLabels_36 : decode cX1_giveLabels 36 = .ok (.aload_n 0, 1) := by decide +kernel
theorem dX1_giveLabels_37 : decode cX1_giveLabels 37 = .ok (.getfield 28, 3) := by decide +kernel
theorem dX1_giveLabels_40 : decode cX1_giveLabels 40 = .ok (.iload_n 2, 1) := by decide +kernel
theorem dX1_giveLabels_41 : decode cX1_giveLabels 41 = .ok (.iload_n 3, 1) := by decide +kernel
theorem dX1_giveLabels_42 : decode cX1_giveLabels 42 = .ok (.iastore, 1) := by decide +kernel
theorem dX1_giveLabels_43 : decode cX1_giveLabels 43 = .ok (.iload_n 1, 1) := by decide +kernel
theorem dX1_giveLabels_44 : decode cX1_giveLabels 44 = .ok (.iload_n 3, 1) := by decide +kernel
theorem dX1_giveLabels_45 : decode cX1_giveLabels 45 = .ok (.invokestatic 74, 3) := by decide +kernel
theorem dX1_giveLabels_48 : decode cX1_giveLabels 48 = .ok (.ior, 1) := by decide +kernel
theorem dX1_giveLabels_49 : decode cX1_giveLabels 49 = .ok (.istore_n 1, 1) := by decide +kernel
theorem dX1_giveLabels_50 : decode cX1_giveLabels 50 = .ok (.aload_n 0, 1) := by decide +kernel
theorem dX1_giveLabels_51 : decode cX1_giveLabels 51 = .ok (.iload_n 3, 1) := by decide +kernel
theorem dX1_giveLabels_52 : decode cX1_giveLabels 52 = .ok (.iload_n 2, 1) := by decide +kernel
theorem dX1_giveLabels_53 : decode cX1_giveLabels 53 = .ok (.invokevirtual 77, 3) := by decide +kernel
theorem dX1_giveLabels_56 : decode cX1_giveLabels 56 = .ok (.iinc 2 1, 3) := by decide +kernel
theorem dX1_giveLabels_59 : decode cX1_giveLabels 59 = .ok (.goto (-47), 3) := by decide +kernel
theorem dX1_giveLabels_62 : decode cX1_giveLabels 62 = .ok (.return_, 1) := by decide +kernel
theorem dX1_firstByRow_0 : decode cX1_firstByRow 0 = .ok (.iconst 0, 1) := by decide +kernel
theorem dX1_firstByRow_1 : decode cX1_firstByRow 1 = .ok (.istore_n 2, 1) := by decide +kernel
theorem dX1_firstByRow_2 : decode cX1_firstByRow 2 = .ok (.ldc 83, 2) := by decide +kernel
theorem dX1_firstByRow_4 : decode cX1_firstByRow 4 = .ok (.istore_n 3, 1) := by decide +kernel
theorem dX1_firstByRow_5 : decode cX1_firstByRow 5 = .ok (.iconst 0, 1) := by decide +kernel
theorem dX1_firstByRow_6 : decode cX1_firstByRow 6 = .ok (.istore 4, 2) := by decide +kernel
theorem dX1_firstByRow_8 : decode cX1_firstByRow 8 = .ok (.iload 4, 2) := by decide +kernel
theorem dX1_firstByRow_10 : decode cX1_firstByRow 10 = .ok (.aload_n 0, 1) := by decide +kernel
theorem dX1_firstByRow_11 : decode cX1_firstByRow 11 = .ok (.getfield 37, 3) := by decide +kernel
theorem dX1_firstByRow_14 : decode cX1_firstByRow 14 = .ok (.getfield 67, 3) := by decide +kernel
theorem dX1_firstByRow_17 : decode cX1_firstByRow 17 = .ok (.if_icmp .ge 69, 3) := by decide +kernel
theorem dX1_firstByRow_20 : decode cX1_firstByRow 20 = .ok (.iload_n 1, 1) := by decide +kernel
theorem dX1_firstByRow_21 : decode cX1_firstByRow 21 = .ok (.iload 4, 2) := by decide +kernel
theorem dX1_firstByRow_23 : decode cX1_firstByRow 23 = .ok (.invokestatic 84, 3) := by decide +kernel
theorem dX1_firstByRow_26 : decode cX1_firstByRow 26 = .ok (.ifCond .ne 24, 3) := by decide +kernel
theorem dX1_firstByRow_29 : decode cX1_firstByRow 29 = .ok (.aload_n 0, 1) := by decide +kernel
theorem dX1_firstByRow_30 : decode cX1_firstByRow 30 = .ok (.getfield 41, 3) := by decide +kernel
theorem dX1_firstByRow_33 : decode cX1_firstByRow 33 = .ok (.getfield 88, 3) := by decide +kernel
theorem dX1_firstByRow_36 : decode cX1_firstByRow 36 = .ok (.iload 4, 2) := by decide +kernel
theorem dX1_firstByRow_38 : decode cX1_firstByRow 38 = .ok (.iaload, 1) := by decide +kernel
theorem dX1_firstByRow_39 : decode cX1_firstByRow 39 = .ok (.iload_n 1, 1) := by decide +kernel
theorem dX1_firstByRow_40 : decode cX1_firstByRow 40 = .ok (.iconst (-1), 1) := by decide +kernel
theorem dX1_firstByRow_41 : decode cX1_firstByRow 41 = .ok (.ixor, 1) := by decide +kernel
theorem dX1_firstByRow_42 : decode cX1_firstByRow 42 = .ok (.iand, 1) := by decide +kernel
theorem dX1_firstByRow_43 : decode cX1_firstByRow 43 = .ok (.ifCond .ne 7, 3) := by decide +kernel
theorem dX1_firstByRow_46 : decode cX1_firstByRow 46 = .ok (.iconst 1, 1) := by decide +kernel
theorem dX1_firstByRow_47 : decode cX1_firstByRow 47 = .ok (.goto 4, 3) := by decide +kernel
theorem dX1_firstByRow_50 : decode cX1_firstByRow 50 = .ok (.iconst 0, 1) := by decide +kernel
theorem dX1_firstByRow_51 : decode cX1_firstByRow 51 = .ok (.istore 5, 2) := by decide +kernel
theorem dX1_firstByRow_53 : decode cX1_firstByRow 53 = .ok (.iload 5, 2) := by decide +kernel
theorem dX1_firstByRow_55 : decode cX1_firstByRow 55 = .ok (.ifCond .eq 25, 3) := by decide +kernel
theorem dX1_firstByRow_58 : decode cX1_firstByRow 58 = .ok (.aload_n 0, 1) := by decide +kernel
theorem dX1_firstByRow_59 : decode cX1_firstByRow 59 = .ok (.getfield 31, 3) := by decide +kernel
theorem dX1_firstByRow_62 : decode cX1_firstByRow 62 = .ok (.iload 4, 2) := by decide +kernel
theorem dX1_firstByRow_64 : decode cX1_firstByRow 64 = .ok (.iaload, 1) := by decide +kernel
theorem dX1_firstByRow_65 : decode cX1_firstByRow 65 = .ok (.iload_n 3, 1) := by decide +kernel
theorem dX1_firstByRow_66 : decode cX1_firstByRow 66 = .ok (.if_icmp .ge 14, 3) := by decide +kernel
theorem dX1_firstByRow_69 : decode cX1_firstByRow 69 = .ok (.iload 4, 2) := by decide +kernel
theorem dX1_firstByRow_71 : decode cX1_firstByRow 71 = .ok (.istore_n 2, 1) := by decide +kernel
theorem dX1_firstByRow_72 : decode cX1_firstByRow 72 = .ok (.aload_n 0, 1) := by decide +kernel
theorem dX1_firstByRow_73 : decode cX1_firstByRow 73 = .ok (.getfield 31, 3) := by decide +kernel
theorem dX1_firstByRow_76 : decode cX1_firstByRow 76 = .ok (.iload 4, 2) := by decide +kernel
theorem dX1_firstByRow_78 : decode cX1_firstByRow 78 = .ok (.iaload, 1) := by decide +kernel
theorem dX1_firstByRow_79 : decode cX1_firstByRow 79 = .ok (.istore_n 3, 1) := by decide +kernel
theorem dX1_firstByRow_80 : decode cX1_firstByRow 80 = .ok (.iinc 4 1, 3) := by decide +kernel
theorem dX1_firstByRow_83 : decode cX1_firstByRow 83 = .ok (.goto (-75), 3) := by decide +kernel
theorem dX1_firstByRow_86 : decode cX1_firstByRow 86 = .ok (.iload_n 2, 1) := by decide +kernel
theorem dX1_firstByRow_87 : decode cX1_firstByRow 87 = .ok (.ireturn, 1) := by decide +kernel
theorem dX1_tellLabel_0 : decode cX1_tellLabel 0 = .ok (.iconst 0, 1) := by decide +kernel
theorem dX1_tellLabel_1 : decode cX1_tellLabel 1 = .ok (.istore_n 3, 1) := by decide +kernel
theorem dX1_tellLabel_2 : decode cX1_tellLabel 2 = .ok (.iload_n 3, 1) := by decide +kernel
theorem dX1_tellLabel_3 : decode cX1_tellLabel 3 = .ok (.aload_n 0, 1) := by decide +kernel
theorem dX1_tellLabel_4 : decode cX1_tellLabel 4 = .ok (.getfield 37, 3) := by decide +kernel
theorem dX1_tellLabel_7 : decode cX1_tellLabel 7 = .ok (.getfield 67, 3) := by decide +kernel
theorem dX1_tellLabel_10 : decode cX1_tellLabel 10 = .ok (.if_icmp .ge 38, 3) := by decide +kernel
theorem dX1_tellLabel_13 : decode cX1_tellLabel 13 = .ok (.aload_n 0, 1) := by decide +kernel
theorem dX1_tellLabel_14 : decode cX1_tellLabel 14 = .ok (.getfield 41, 3) := by decide +kernel
theorem dX1_tellLabel_17 : decode cX1_tellLabel 17 = .ok (.getfield 88, 3) := by decide +kernel
theorem dX1_tellLabel_20 : decode cX1_tellLabel 20 = .ok (.iload_n 3, 1) := by decide +kernel
theorem dX1_tellLabel_21 : decode cX1_tellLabel 21 = .ok (.iaload, 1) := by decide +kernel
theorem dX1_tellLabel_22 : decode cX1_tellLabel 22 = .ok (.iload_n 1, 1) := by decide +kernel
theorem dX1_tellLabel_23 : decode cX1_tellLabel 23 = .ok (.invokestatic 84, 3) := by decide +kernel
theorem dX1_tellLabel_26 : decode cX1_tellLabel 26 = .ok (.ifCond .eq 16, 3) := by decide +kernel
theorem dX1_tellLabel_29 : decode cX1_tellLabel 29 = .ok (.aload_n 0, 1) := by decide +kernel
theorem dX1_tellLabel_30 : decode cX1_tellLabel 30 = .ok (.getfield 31, 3) := by decide +kernel
theorem dX1_tellLabel_33 : decode cX1_tellLabel 33 = .ok (.iload_n 3, 1) := by decide +kernel
theorem dX1_tellLabel_34 : decode cX1_tellLabel 34 = .ok (.dup2, 1) := by decide +kernel
theorem dX1_tellLabel_35 : decode cX1_tellLabel 35 = .ok (.iaload, 1) := by decide +kernel
theorem dX1_tellLabel_36 : decode cX1_tellLabel 36 = .ok (.iload_n 2, 1) := by decide +kernel
theorem dX1_tellLabel_37 : decode cX1_tellLabel 37 = .ok (.invokestatic 74, 3) := by decide +kernel
theorem dX1_tellLabel_40 : decode cX1_tellLabel 40 = .ok (.ior, 1) := by decide +kernel
theorem dX1_tellLabel_41 : decode cX1_tellLabel 41 = .ok (.iastore, 1) := by decide +kernel
theorem dX1_tellLabel_42 : decode cX1_tellLabel 42 = .ok (.iinc 3 1, 3) := by decide +kernel
theorem dX1_tellLabel_45 : decode cX1_tellLabel 45 = .ok (.goto (-43), 3) := by decide +kernel
theorem dX1_tellLabel_48 : decode cX1_tellLabel 48 = .ok (.return_, 1) := by decide +kernel
theorem dX1_fillHours_0 : decode cX1_fillHours 0 = .ok (.aload_n 0, 1) := by decide +kernel
theorem dX1_fillHours_1 : decode cX1_fillHours 1 = .ok (.getfield 37, 3) := by decide +kernel
theorem dX1_fillHours_4 : decode cX1_fillHours 4 = .ok (.invokevirtual 91, 3) := by decide +kernel
theorem dX1_fillHours_7 : decode cX1_fillHours 7 = .ok (.istore_n 1, 1) := by decide +kernel
theorem dX1_fillHours_8 : decode cX1_fillHours 8 = .ok (.iconst 0, 1) := by decide +kernel
theorem dX1_fillHours_9 : decode cX1_fillHours 9 = .ok (.istore_n 2, 1) := by decide +kernel
theorem dX1_fillHours_10 : decode cX1_fillHours 10 = .ok (.iconst 0, 1) := by decide +kernel
theorem dX1_fillHours_11 : decode cX1_fillHours 11 = .ok (.istore_n 3, 1) := by decide +kernel
theorem dX1_fillHours_12 : decode cX1_fillHours 12 = .ok (.iload_n 2, 1) := by decide +kernel
theorem dX1_fillHours_13 : decode cX1_fillHours 13 = .ok (.iload_n 1, 1) := by decide +kernel
theorem dX1_fillHours_14 : decode cX1_fillHours 14 = .ok (.if_icmp .eq 72, 3) := by decide +kernel
theorem dX1_fillHours_17 : decode cX1_fillHours 17 = .ok (.iload_n 3, 1) := by decide +kernel
theorem dX1_fillHours_18 : decode cX1_fillHours 18 = .ok (.aload_n 0, 1) := by decide +kernel
theorem dX1_fillHours_19 : decode cX1_fillHours 19 = .ok (.getfield 37, 3) := by decide +kernel
theorem dX1_fillHours_22 : decode cX1_fillHours 22 = .ok (.getfield 67, 3) := by decide +kernel
theorem dX1_fillHours_25 : decode cX1_fillHours 25 = .ok (.if_icmp .ge 61, 3) := by decide +kernel
theorem dX1_fillHours_28 : decode cX1_fillHours 28 = .ok (.iinc 3 1, 3) := by decide +kernel
theorem dX1_fillHours_31 : decode cX1_fillHours 31 = .ok (.aload_n 0, 1) := by decide +kernel
theorem dX1_fillHours_32 : decode cX1_fillHours 32 = .ok (.iload_n 2, 1) := by decide +kernel
theorem dX1_fillHours_33 : decode cX1_fillHours 33 = .ok (.bipush 10, 2) := by decide +kernel
theorem dX1_fillHours_35 : decode cX1_fillHours 35 = .ok (.invokevirtual 95, 3) := by decide +kernel
theorem dX1_fillHours_38 : decode cX1_fillHours 38 = .ok (.istore 4, 2) := by decide +kernel
theorem dX1_fillHours_40 : decode cX1_fillHours 40 = .ok (.aload_n 0, 1) := by decide +kernel
theorem dX1_fillHours_41 : decode cX1_fillHours 41 = .ok (.iload_n 2, 1) := by decide +kernel
theorem dX1_fillHours_42 : decode cX1_fillHours 42 = .ok (.iload 4, 2) := by decide +kernel
theorem dX1_fillHours_44 : decode cX1_fillHours 44 = .ok (.invokevirtual 95, 3) := by decide +kernel
theorem dX1_fillHours_47 : decode cX1_fillHours 47 = .ok (.istore 5, 2) := by decide +kernel
theorem dX1_fillHours_49 : decode cX1_fillHours 49 = .ok (.aload_n 0, 1) := by decide +kernel
theorem dX1_fillHours_50 : decode cX1_fillHours 50 = .ok (.getfield 18, 3) := by decide +kernel
theorem dX1_fillHours_53 : decode cX1_fillHours 53 = .ok (.iload_n 3, 1) := by decide +kernel
theorem dX1_fillHours_54 : decode cX1_fillHours 54 = .ok (.iload 4, 2) := by decide +kernel
theorem dX1_fillHours_56 : decode cX1_fillHours 56 = .ok (.iastore, 1) := by decide +kernel
theorem dX1_fillHours_57 : decode cX1_fillHours 57 = .ok (.aload_n 0, 1) := by decide +kernel
theorem dX1_fillHours_58 : decode cX1_fillHours 58 = .ok (.getfield 21, 3) := by decide +kernel
theorem dX1_fillHours_61 : decode cX1_fillHours 61 = .ok (.iload_n 3, 1) := by decide +kernel
theorem dX1_fillHours_62 : decode cX1_fillHours 62 = .ok (.iload 5, 2) := by decide +kernel
theorem dX1_fillHours_64 : decode cX1_fillHours 64 = .ok (.iastore, 1) := by decide +kernel
theorem dX1_fillHours_65 : decode cX1_fillHours 65 = .ok (.iload_n 2, 1) := by decide +kernel
theorem dX1_fillHours_66 : decode cX1_fillHours 66 = .ok (.aload_n 0, 1) := by decide +kernel
theorem dX1_fillHours_67 : decode cX1_fillHours 67 = .ok (.iload 4, 2) := by decide +kernel
theorem dX1_fillHours_69 : decode cX1_fillHours 69 = .ok (.iload_n 3, 1) := by decide +kernel
theorem dX1_fillHours_70 : decode cX1_fillHours 70 = .ok (.invokevirtual 99, 3) := by decide +kernel
theorem dX1_fillHours_73 : decode cX1_fillHours 73 = .ok (.aload_n 0, 1) := by decide +kernel
theorem dX1_fillHours_74 : decode cX1_fillHours 74 = .ok (.iload 5, 2) := by decide +kernel
theorem dX1_fillHours_76 : decode cX1_fillHours 76 = .ok (.iload_n 3, 1) := by decide +kernel
theorem dX1_fillHours_77 : decode cX1_fillHours 77 = .ok (.invokevirtual 99, 3) := by decide +kernel
theorem dX1_fillHours_80 : decode cX1_fillHours 80 = .ok (.ior, 1) := by decide +kernel
theorem dX1_fillHours_81 : decode cX1_fillHours 81 = .ok (.ior, 1) := by decide +kernel
theorem dX1_fillHours_82 : decode cX1_fillHours 82 = .ok (.istore_n 2, 1) := by decide +kernel
theorem dX1_fillHours_83 : decode cX1_fillHours 83 = .ok (.goto (-71), 3) := by decide +kernel
theorem dX1_fillHours_86 : decode cX1_fillHours 86 = .ok (.aload_n 0, 1) := by decide +kernel
theorem dX1_fillHours_87 : decode cX1_fillHours 87 = .ok (.iload_n 3, 1) := by decide +kernel
theorem dX1_fillHours_88 : decode cX1_fillHours 88 = .ok (.putfield 24, 3) := by decide +kernel
theorem dX1_fillHours_91 : decode cX1_fillHours 91 = .ok (.return_, 1) := by decide +kernel
theorem dX1_greatestReady_0 : decode cX1_greatestReady 0 = .ok (.aload_n 0, 1) := by decide +kernel
theorem dX1_greatestReady_1 : decode cX1_greatestReady 1 = .ok (.getfield 37, 3) := by decide +kernel
theorem dX1_greatestReady_4 : decode cX1_greatestReady 4 = .ok (.getfield 67, 3) := by decide +kernel
theorem dX1_greatestReady_7 : decode cX1_greatestReady 7 = .ok (.istore_n 3, 1) := by decide +kernel
theorem dX1_greatestReady_8 : decode cX1_greatestReady 8 = .ok (.iload_n 3, 1) := by decide +kernel
theorem dX1_greatestReady_9 : decode cX1_greatestReady 9 = .ok (.iconst 1, 1) := by decide +kernel
theorem dX1_greatestReady_10 : decode cX1_greatestReady 10 = .ok (.if_icmp .lt 52, 3) := by decide +kernel
theorem dX1_greatestReady_13 : decode cX1_greatestReady 13 = .ok (.aload_n 0, 1) := by decide +kernel
theorem dX1_greatestReady_14 : decode cX1_greatestReady 14 = .ok (.getfield 28, 3) := by decide +kernel
theorem dX1_greatestReady_17 : decode cX1_greatestReady 17 = .ok (.iload_n 3, 1) := by decide +kernel
theorem dX1_greatestReady_18 : decode cX1_greatestReady 18 = .ok (.iaload, 1) := by decide +kernel
theorem dX1_greatestReady_19 : decode cX1_greatestReady 19 = .ok (.istore 4, 2) := by decide +kernel
theorem dX1_greatestReady_21 : decode cX1_greatestReady 21 = .ok (.iload 4, 2) := by decide +kernel
theorem dX1_greatestReady_23 : decode cX1_greatestReady 23 = .ok (.iload_n 2, 1) := by decide +kernel
theorem dX1_greatestReady_24 : decode cX1_greatestReady 24 = .ok (.if_icmp .eq 32, 3) := by decide +kernel
theorem dX1_greatestReady_27 : decode cX1_greatestReady 27 = .ok (.iload_n 1, 1) := by decide +kernel
theorem dX1_greatestReady_28 : decode cX1_greatestReady 28 = .ok (.iload 4, 2) := by decide +kernel
theorem dX1_greatestReady_30 : decode cX1_greatestReady 30 = .ok (.invokestatic 84, 3) := by decide +kernel
theorem dX1_greatestReady_33 : decode cX1_greatestReady 33 = .ok (.ifCond .ne 23, 3) := by decide +kernel
theorem dX1_greatestReady_36 : decode cX1_greatestReady 36 = .ok (.aload_n 0, 1) := by decide +kernel
theorem dX1_greatestReady_37 : decode cX1_greatestReady 37 = .ok (.getfield 41, 3) := by decide +kernel
theorem dX1_greatestReady_40 : decode cX1_greatestReady 40 = .ok (.getfield 102, 3) := by decide +kernel
theorem dX1_greatestReady_43 : decode cX1_greatestReady 43 = .ok (.iload 4, 2) := by decide +kernel
theorem dX1_greatestReady_45 : decode cX1_greatestReady 45 = .ok (.iaload, 1) := by decide +kernel
theorem dX1_greatestReady_46 : decode cX1_greatestReady 46 = .ok (.iload_n 1, 1) := by decide +kernel
theorem dX1_greatestReady_47 : decode cX1_greatestReady 47 = .ok (.iconst (-1), 1) := by decide +kernel
theorem dX1_greatestReady_48 : decode cX1_greatestReady 48 = .ok (.ixor, 1) := by decide +kernel
theorem dX1_greatestReady_49 : decode cX1_greatestReady 49 = .ok (.iand, 1) := by decide +kernel
theorem dX1_greatestReady_50 : decode cX1_greatestReady 50 = .ok (.ifCond .ne 6, 3) := by decide +kernel
theorem dX1_greatestReady_53 : decode cX1_greatestReady 53 = .ok (.iload 4, 2) := by decide +kernel
theorem dX1_greatestReady_55 : decode cX1_greatestReady 55 = .ok (.ireturn, 1) := by decide +kernel
theorem dX1_greatestReady_56 : decode cX1_greatestReady 56 = .ok (.iinc 3 (-1), 3) := by decide +kernel
theorem dX1_greatestReady_59 : decode cX1_greatestReady 59 = .ok (.goto (-51), 3) := by decide +kernel
theorem dX1_greatestReady_62 : decode cX1_greatestReady 62 = .ok (.bipush (-3), 2) := by decide +kernel
theorem dX1_greatestReady_64 : decode cX1_greatestReady 64 = .ok (.ireturn, 1) := by decide +kernel
theorem dX1_place_0 : decode cX1_place 0 = .ok (.iload_n 1, 1) := by decide +kernel
theorem dX1_place_1 : decode cX1_place 1 = .ok (.bipush (-3), 2) := by decide +kernel
theorem dX1_place_3 : decode cX1_place 3 = .ok (.if_icmp .ne 5, 3) := by decide +kernel
theorem dX1_place_6 : decode cX1_place 6 = .ok (.iconst 0, 1) := by decide +kernel
theorem dX1_place_7 : decode cX1_place 7 = .ok (.ireturn, 1) := by decide +kernel
theorem dX1_place_8 : decode cX1_place 8 = .ok (.aload_n 0, 1) := by decide +kernel
theorem dX1_place_9 : decode cX1_place 9 = .ok (.getfield 15, 3) := by decide +kernel
theorem dX1_place_12 : decode cX1_place 12 = .ok (.iload_n 1, 1) := by decide +kernel
theorem dX1_place_13 : decode cX1_place 13 = .ok (.iload_n 2, 1) := by decide +kernel
theorem dX1_place_14 : decode cX1_place 14 = .ok (.iastore, 1) := by decide +kernel
theorem dX1_place_15 : decode cX1_place 15 = .ok (.iload_n 1, 1) := by decide +kernel
theorem dX1_place_16 : decode cX1_place 16 = .ok (.invokestatic 74, 3) := by decide +kernel
theorem dX1_place_19 : decode cX1_place 19 = .ok (.ireturn, 1) := by decide +kernel
theorem dX2_init_0 : decode cX2_init 0 = .ok (.aload_n 0, 1) := by decide +kernel
theorem dX2_init_1 : decode cX2_init 1 = .ok (.invokespecial 3, 3) := by decide +kernel
theorem dX2_init_4 : decode cX2_init 4 = .ok (.aload_n 0, 1) := by decide +kernel
theorem dX2_init_5 : decode cX2_init 5 = .ok (.bipush 10, 2) := by decide +kernel
theorem dX2_init_7 : decode cX2_init 7 = .ok (.newarray .int, 2) := by decide +kernel
theorem dX2_init_9 : decode cX2_init 9 = .ok (.putfield 9, 3) := by decide +kernel
theorem dX2_init_12 : decode cX2_init 12 = .ok (.aload_n 0, 1) := by decide +kernel
theorem dX2_init_13 : decode cX2_init 13 = .ok (.bipush 10, 2) := by decide +kernel
theorem dX2_init_15 : decode cX2_init 15 = .ok (.newarray .int, 2) := by decide +kernel
theorem dX2_init_17 : decode cX2_init 17 = .ok (.putfield 15, 3) := by decide +kernel
theorem dX2_init_20 : decode cX2_init 20 = .ok (.aload_n 0, 1) := by decide +kernel
theorem dX2_init_21 : decode cX2_init 21 = .ok (.bipush 10, 2) := by decide +kernel
theorem dX2_init_23 : decode cX2_init 23 = .ok (.newarray .int, 2) := by decide +kernel
theorem dX2_init_25 : decode cX2_init 25 = .ok (.putfield 18, 3) := by decide +kernel
theorem dX2_init_28 : decode cX2_init 28 = .ok (.aload_n 0, 1) := by decide +kernel
theorem dX2_init_29 : decode cX2_init 29 = .ok (.bipush 10, 2) := by decide +kernel
theorem dX2_init_31 : decode cX2_init 31 = .ok (.newarray .int, 2) := by decide +kernel
theorem dX2_init_33 : decode cX2_init 33 = .ok (.putfield 21, 3) := by decide +kernel
theorem dX2_init_36 : decode cX2_init 36 = .ok (.aload_n 0, 1) := by decide +kernel
theorem dX2_init_37 : decode cX2_init 37 = .ok (.iconst 0, 1) := by decide +kernel
theorem dX2_init_38 : decode cX2_init 38 = .ok (.putfield 24, 3) := by decide +kernel
theorem dX2_init_41 : decode cX2_init 41 = .ok (.aload_n 0, 1) := by decide +kernel
theorem dX2_init_42 : decode cX2_init 42 = .ok (.iconst (-1), 1) := by decide +kernel
theorem dX2_init_43 : decode cX2_init 43 = .ok (.putfield 28, 3) := by decide +kernel
theorem dX2_init_46 : decode cX2_init 46 = .ok (.aload_n 0, 1) := by decide +kernel
theorem dX2_init_47 : decode cX2_init 47 = .ok (.aload_n 1, 1) := by decide +kernel
theorem dX2_init_48 : decode cX2_init 48 = .ok (.putfield 31, 3) := by decide +kernel
theorem dX2_init_51 : decode cX2_init 51 = .ok (.return_, 1) := by decide +kernel
theorem dX2_renew_0 : decode cX2_renew 0 = .ok (.aload_n 0, 1) := by decide +kernel
theorem dX2_renew_1 : decode cX2_renew 1 = .ok (.getfield 28, 3) := by decide +kernel
theorem dX2_renew_4 : decode cX2_renew 4 = .ok (.aload_n 0, 1) := by decide +kernel
theorem dX2_renew_5 : decode cX2_renew 5 = .ok (.getfield 31, 3) := by decide +kernel
theorem dX2_renew_8 : decode cX2_renew 8 = .ok (.getfield 35, 3) := by decide +kernel
theorem dX2_renew_11 : decode cX2_renew 11 = .ok (.if_icmp .ne 4, 3) := by decide +kernel
theorem dX2_renew_14 : decode cX2_renew 14 = .ok (.return_, 1) := by decide +kernel
theorem dX2_renew_15 : decode cX2_renew 15 = .ok (.aload_n 0, 1) := by decide +kernel
theorem dX2_renew_16 : decode cX2_renew 16 = .ok (.aload_n 0, 1) := by decide +kernel
theorem dX2_renew_17 : decode cX2_renew 17 = .ok (.getfield 31, 3) := by decide +kernel
theorem dX2_renew_20 : decode cX2_renew 20 = .ok (.getfield 35, 3) := by decide +kernel
theorem dX2_renew_23 : decode cX2_renew 23 = .ok (.putfield 28, 3) := by decide +kernel
theorem dX2_renew_26 : decode cX2_renew 26 = .ok (.aload_n 0, 1) := by decide +kernel
theorem dX2_renew_27 : decode cX2_renew 27 = .ok (.invokevirtual 40, 3) := by decide +kernel
theorem dX2_renew_30 : decode cX2_renew 30 = .ok (.aload_n 0, 1) := by decide +kernel
theorem dX2_renew_31 : decode cX2_renew 31 = .ok (.invokevirtual 43, 3) := by decide +kernel
theorem dX2_renew_34 : decode cX2_renew 34 = .ok (.aload_n 0, 1) := by decide +kernel
theorem dX2_renew_35 : decode cX2_renew 35 = .ok (.invokevirtual 46, 3) := by decide +kernel
theorem dX2_renew_38 : decode cX2_renew 38 = .ok (.aload_n 0, 1) := by decide +kernel
theorem dX2_renew_39 : decode cX2_renew 39 = .ok (.invokevirtual 49, 3) := by decide +kernel
theorem dX2_renew_42 : decode cX2_renew 42 = .ok (.return_, 1) := by decide +kernel
theorem dX2_areApart_0 : decode cX2_areApart 0 = .ok (.iload_n 1, 1) := by decide +kernel
theorem dX2_areApart_1 : decode cX2_areApart 1 = .ok (.iload_n 2, 1) := by decide +kernel
theorem dX2_areApart_2 : decode cX2_areApart 2 = .ok (.if_icmp .eq 33, 3) := by decide +kernel
theorem dX2_areApart_5 : decode cX2_areApart 5 = .ok (.aload_n 0, 1) := by decide +kernel
theorem dX2_areApart_6 : decode cX2_areApart 6 = .ok (.getfield 9, 3) := by decide +kernel
theorem dX2_areApart_9 : decode cX2_areApart 9 = .ok (.iload_n 1, 1) := by decide +kernel
theorem dX2_areApart_10 : decode cX2_areApart 10 = .ok (.iaload, 1) := by decide +kernel
theorem dX2_areApart_11 : decode cX2_areApart 11 = .ok (.iload_n 2, 1) := by decide +kernel
theorem dX2_areApart_12 : decode cX2_areApart 12 = .ok (.invokestatic 52, 3) := by decide +kernel
theorem dX2_areApart_15 : decode cX2_areApart 15 = .ok (.ifCond .ne 20, 3) := by decide +kernel
theorem dX2_areApart_18 : decode cX2_areApart 18 = .ok (.aload_n 0, 1) := by decide +kernel
theorem dX2_areApart_19 : decode cX2_areApart 19 = .ok (.getfield 9, 3) := by decide +kernel
theorem dX2_areApart_22 : decode cX2_areApart 22 = .ok (.iload_n 2, 1) := by decide +kernel
theorem dX2_areApart_23 : decode cX2_areApart 23 = .ok (.iaload, 1) := by decide +kernel
theorem dX2_areApart_24 : decode cX2_areApart 24 = .ok (.iload_n 1, 1) := by decide +kernel
theorem dX2_areApart_25 : decode cX2_areApart 25 = .ok (.invokestatic 52, 3) := by decide +kernel
theorem dX2_areApart_28 : decode cX2_areApart 28 = .ok (.ifCond .ne 7, 3) := by decide +kernel
theorem dX2_areApart_31 : decode cX2_areApart 31 = .ok (.iconst 1, 1) := by decide +kernel
theorem dX2_areApart_32 : decode cX2_areApart 32 = .ok (.goto 4, 3) := by decide +kernel
theorem dX2_areApart_35 : decode cX2_areApart 35 = .ok (.iconst 0, 1) := by decide +kernel
theorem dX2_areApart_36 : decode cX2_areApart 36 = .ok (.ireturn, 1) := by decide +kernel
theorem dX2_areTwins_0 : decode cX2_areTwins 0 = .ok (.aload_n 0, 1) := by decide +kernel
theorem dX2_areTwins_1 : decode cX2_areTwins 1 = .ok (.getfield 9, 3) := by decide +kernel
theorem dX2_areTwins_4 : decode cX2_areTwins 4 = .ok (.iload_n 1, 1) := by decide +kernel
theorem dX2_areTwins_5 : decode cX2_areTwins 5 = .ok (.iaload, 1) := by decide +kernel
theorem dX2_areTwins_6 : decode cX2_areTwins 6 = .ok (.aload_n 0, 1) := by decide +kernel
theorem dX2_areTwins_7 : decode cX2_areTwins 7 = .ok (.getfield 9, 3) := by decide +kernel
theorem dX2_areTwins_10 : decode cX2_areTwins 10 = .ok (.iload_n 2, 1) := by decide +kernel
theorem dX2_areTwins_11 : decode cX2_areTwins 11 = .ok (.iaload, 1) := by decide +kernel
theorem dX2_areTwins_12 : decode cX2_areTwins 12 = .ok (.if_icmp .ne 22, 3) := by decide +kernel
theorem dX2_areTwins_15 : decode cX2_areTwins 15 = .ok (.aload_n 0, 1) := by decide +kernel
theorem dX2_areTwins_16 : decode cX2_areTwins 16 = .ok (.getfield 15, 3) := by decide +kernel
theorem dX2_areTwins_19 : decode cX2_areTwins 19 = .ok (.iload_n 1, 1) := by decide +kernel
theorem dX2_areTwins_20 : decode cX2_areTwins 20 = .ok (.iaload, 1) := by decide +kernel
theorem dX2_areTwins_21 : decode cX2_areTwins 21 = .ok (.aload_n 0, 1) := by decide +kernel
theorem dX2_areTwins_22 : decode cX2_areTwins 22 = .ok (.getfield 15, 3) := by decide +kernel
theorem dX2_areTwins_25 : decode cX2_areTwins 25 = .ok (.iload_n 2, 1) := by decide +kernel
theorem dX2_areTwins_26 : decode cX2_areTwins 26 = .ok (.iaload, 1) := by decide +kernel
theorem dX2_areTwins_27 : decode cX2_areTwins 27 = .ok (.if_icmp .ne 7, 3) := by decide +kernel
theorem dX2_areTwins_30 : decode cX2_areTwins 30 = .ok (.iconst 1, 1) := by decide +kernel
theorem dX2_areTwins_31 : decode cX2_areTwins 31 = .ok (.goto 4, 3) := by decide +kernel
theorem dX2_areTwins_34 : decode cX2_areTwins 34 = .ok (.iconst 0, 1) := by decide +kernel
theorem dX2_areTwins_35 : decode cX2_areTwins 35 = .ok (.ireturn, 1) := by decide +kernel
theorem dX2_findBehind_0 : decode cX2_findBehind 0 = .ok (.aload_n 0, 1) := by decide +kernel
theorem dX2_findBehind_1 : decode cX2_findBehind 1 = .ok (.getfield 31, 3) := by decide +kernel
theorem dX2_findBehind_4 : decode cX2_findBehind 4 = .ok (.getfield 56, 3) := by decide +kernel
theorem dX2_findBehind_7 : decode cX2_findBehind 7 = .ok (.iconst 0, 1) := by decide +kernel
theorem dX2_findBehind_8 : decode cX2_findBehind 8 = .ok (.aload_n 0, 1) := by decide +kernel
theorem dX2_findBehind_9 : decode cX2_findBehind 9 = .ok (.getfield 9, 3) := by decide +kernel
theorem dX2_findBehind_12 : decode cX2_findBehind 12 = .ok (.iconst 0, 1) := by decide +kernel
theorem dX2_findBehind_13 : decode cX2_findBehind 13 = .ok (.aload_n 0, 1) := by decide +kernel
theorem dX2_findBehind_14 : decode cX2_findBehind 14 = .ok (.getfield 31, 3) := by decide +kernel
theorem dX2_findBehind_17 : decode cX2_findBehind 17 = .ok (.getfield 59, 3) := by decide +kernel
theorem dX2_findBehind_20 : decode cX2_findBehind 20 = .ok (.invokestatic 62, 3) := by decide +kernel
theorem dX2_findBehind_23 : decode cX2_findBehind 23 = .ok (.iconst 0, 1) := by decide +kernel
theorem dX2_findBehind_24 : decode cX2_findBehind 24 = .ok (.istore_n 1, 1) := by decide +kernel
theorem dX2_findBehind_25 : decode cX2_findBehind 25 = .ok (.iload_n 1, 1) := by decide +kernel
theorem dX2_findBehind_26 : decode cX2_findBehind 26 = .ok (.aload_n 0, 1) := by decide +kernel
theorem dX2_findBehind_27 : decode cX2_findBehind 27 = .ok (.getfield 31, 3) := by decide +kernel
theorem dX2_findBehind_30 : decode cX2_findBehind 30 = .ok (.getfield 59, 3) := by decide +kernel
theorem dX2_findBehind_33 : decode cX2_findBehind 33 = .ok (.if_icmp .ge 56, 3) := by decide +kernel
theorem dX2_findBehind_36 : decode cX2_findBehind 36 = .ok (.iconst 0, 1) := by decide +kernel
theorem dX2_findBehind_37 : decode cX2_findBehind 37 = .ok (.istore_n 2, 1) := by decide +kernel
theorem dX2_findBehind_38 : decode cX2_findBehind 38 = .ok (.iload_n 2, 1) := by decide +kernel
theorem dX2_findBehind_39 : decode cX2_findBehind 39 = .ok (.aload_n 0, 1) := by decide +kernel
theorem dX2_findBehind_40 : decode cX2_findBehind 40 = .ok (.getfield 31, 3) := by decide +kernel
theorem dX2_findBehind_43 : decode cX2_findBehind 43 = .ok (.getfield 59, 3) := by decide +kernel
theorem dX2_findBehind_46 : decode cX2_findBehind 46 = .ok (.if_icmp .ge 37, 3) := by decide +kernel
theorem dX2_findBehind_49 : decode cX2_findBehind 49 = .ok (.aload_n 0, 1) := by decide +kernel
theorem dX2_findBehind_50 : decode cX2_findBehind 50 = .ok (.getfield 9, 3) := by decide +kernel
theorem dX2_findBehind_53 : decode cX2_findBehind 53 = .ok (.iload_n 2, 1) := by decide +kernel
theorem dX2_findBehind_54 : decode cX2_findBehind 54 = .ok (.iaload, 1) := by decide +kernel
theorem dX2_findBehind_55 : decode cX2_findBehind 55 = .ok (.iload_n 1, 1) := by decide +kernel
theorem dX2_findBehind_56 : decode cX2_findBehind 56 = .ok (.invokestatic 52, 3) := by decide +kernel
theorem dX2_findBehind_59 : decode cX2_findBehind 59 = .ok (.ifCond .eq 18, 3) := by decide +kernel
theorem dX2_findBehind_62 : decode cX2_findBehind 62 = .ok (.aload_n 0, 1) := by decide +kernel
theorem dX2_findBehind_63 : decode cX2_findBehind 63 = .ok (.getfield 9, 3) := by decide +kernel
theorem dX2_findBehind_66 : decode cX2_findBehind 66 = .ok (.iload_n 2, 1) := by decide +kernel
theorem dX2_findBehind_67 : decode cX2_findBehind 67 = .ok (.dup2, 1) := by decide +kernel
theorem dX2_findBehind_68 : decode cX2_findBehind 68 = .ok (.iaload, 1) := by decide +kernel
theorem dX2_findBehind_69 : decode cX2_findBehind 69 = .ok (.aload_n 0, 1) := by decide +kernel
theorem dX2_findBehind_70 : decode cX2_findBehind 70 = .ok (.getfield 9, 3) := by decide +kernel
theorem dX2_findBehind_73 : decode cX2_findBehind 73 = .ok (.iload_n 1, 1) := by decide +kernel
theorem dX2_findBehind_74 : decode cX2_findBehind 74 = .ok (.iaload, 1) := by decide +kernel
theorem dX2_findBehind_75 : decode cX2_findBehind 75 = .ok (.ior, 1) := by decide +kernel
theorem dX2_findBehind_76 : decode cX2_findBehind 76 = .ok (.iastore, 1) := by decide +kernel
theorem dX2_findBehind_77 : decode cX2_findBehind 77 = .ok (.iinc 2 1, 3) := by decide +kernel
theorem dX2_findBehind_80 : decode cX2_findBehind 80 = .ok (.goto (-42), 3) := by decide +kernel
theorem dX2_findBehind_83 : decode cX2_findBehind 83 = .ok (.iinc 1 1, 3) := by decide +kernel
theorem dX2_findBehind_86 : decode cX2_findBehind 86 = .ok (.goto (-61), 3) := by decide +kernel
theorem dX2_findBehind_89 : decode cX2_findBehind 89 = .ok (.return_, 1) := by decide +kernel
theorem dX2_findFollowers_0 : decode cX2_findFollowers 0 = .ok (.aload_n 0, 1) := by decide +kernel
theorem dX2_findFollowers_1 : decode cX2_findFollowers 1 = .ok (.getfield 15, 3) := by decide +kernel
theorem dX2_findFollowers_4 : decode cX2_findFollowers 4 = .ok (.iconst 0, 1) := by decide +kernel
theorem dX2_findFollowers_5 : decode cX2_findFollowers 5 = .ok (.invokestatic 68, 3) := by decide +kernel
theorem dX2_findFollowers_8 : decode cX2_findFollowers 8 = .ok (.iconst 0, 1) := by decide +kernel
theorem dX2_findFollowers_9 : decode cX2_findFollowers 9 = .ok (.istore_n 1, 1) := by decide +kernel
theorem dX2_findFollowers_10 : decode cX2_findFollowers 10 = .ok (.iload_n 1, 1) := by decide +kernel
theorem dX2_findFollowers_11 : decode cX2_findFollowers 11 = .ok (.aload_n 0, 1) := by decide +kernel
theorem dX2_findFollowers_12 : decode cX2_findFollowers 12 = .ok (.getfield 31, 3) := by decide +kernel
theorem dX2_findFollowers_15 : decode cX2_findFollowers 15 = .ok (.getfield 59, 3) := by decide +kernel
theorem dX2_findFollowers_18 : decode cX2_findFollowers 18 = .ok (.if_icmp .ge 54, 3) := by decide +kernel
theorem dX2_findFollowers_21 : decode cX2_findFollowers 21 = .ok (.iconst 0, 1) := by decide +kernel
theorem dX2_findFollowers_22 : decode cX2_findFollowers 22 = .ok (.istore_n 2, 1) := by decide +kernel
theorem dX2_findFollowers_23 : decode cX2_findFollowers 23 = .ok (.iload_n 2, 1) := by decide +kernel
theorem dX2_findFollowers_24 : decode cX2_findFollowers 24 = .ok (.aload_n 0, 1) := by decide +kernel
theorem dX2_findFollowers_25 : decode cX2_findFollowers 25 = .ok (.getfield 31, 3) := by decide +kernel
theorem dX2_findFollowers_28 : decode cX2_findFollowers 28 = .ok (.getfield 59, 3) := by decide +kernel
theorem dX2_findFollowers_31 : decode cX2_findFollowers 31 = .ok (.if_icmp .ge 35, 3) := by decide +kernel
theorem dX2_findFollowers_34 : decode cX2_findFollowers 34 = .ok (.aload_n 0, 1) := by decide +kernel
theorem dX2_findFollowers_35 : decode cX2_findFollowers 35 = .ok (.getfield 9, 3) := by decide +kernel
theorem dX2_findFollowers_38 : decode cX2_findFollowers 38 = .ok (.iload_n 1, 1) := by decide +kernel
theorem dX2_findFollowers_39 : decode cX2_findFollowers 39 = .ok (.iaload, 1) := by decide +kernel
theorem dX2_findFollowers_40 : decode cX2_findFollowers 40 = .ok (.iload_n 2, 1) := by decide +kernel
theorem dX2_findFollowers_41 : decode cX2_findFollowers 41 = .ok (.invokestatic 52, 3) := by decide +kernel
theorem dX2_findFollowers_44 : decode cX2_findFollowers 44 = .ok (.ifCond .eq 16, 3) := by decide +kernel
theorem dX2_findFollowers_47 : decode cX2_findFollowers 47 = .ok (.aload_n 0, 1) := by decide +kernel
theorem dX2_findFollowers_48 : decode cX2_findFollowers 48 = .ok (.getfield 15, 3) := by decide +kernel
theorem dX2_findFollowers_51 : decode cX2_findFollowers 51 = .ok (.iload_n 2, 1) := by decide +kernel
theorem dX2_findFollowers_52 : decode cX2_findFollowers 52 = .ok (.dup2, 1) := by decide +kernel
theorem dX2_findFollowers_53 : decode cX2_findFollowers 53 = .ok (.iaload, 1) := by decide +kernel
theorem dX2_findFollowers_54 : decode cX2_findFollowers 54 = .ok (.iload_n 1, 1) := by decide +kernel
theorem dX2_findFollowers_55 : decode cX2_findFollowers 55 = .ok (.invokestatic 74, 3) := by decide +kernel
theorem dX2_findFollowers_58 : decode cX2_findFollowers 58 = .ok (.ior, 1) := by decide +kernel
theorem dX2_findFollowers_59 : decode cX2_findFollowers 59 = .ok (.iastore, 1) := by decide +kernel
theorem dX2_findFollowers_60 : decode cX2_findFollowers 60 = .ok (.iinc 2 1, 3) := by decide +kernel
theorem dX2_findFollowers_63 : decode cX2_findFollowers 63 = .ok (.goto (-40), 3) := by decide +kernel
theorem dX2_findFollowers_66 : decode cX2_findFollowers 66 = .ok (.iinc 1 1, 3) := by decide +kernel
theorem dX2_findFollowers_69 : decode cX2_findFollowers 69 = .ok (.goto (-59), 3) := by decide +kernel
theorem dX2_findFollowers_72 : decode cX2_findFollowers 72 = .ok (.return_, 1) := by decide +kernel
theorem dX2_findNexts_0 : decode cX2_findNexts 0 = .ok (.aload_n 0, 1) := by decide +kernel
theorem dX2_findNexts_1 : decode cX2_findNexts 1 = .ok (.getfield 18, 3) := by decide +kernel
theorem dX2_findNexts_4 : decode cX2_findNexts 4 = .ok (.iconst 0, 1) := by decide +kernel
theorem dX2_findNexts_5 : decode cX2_findNexts 5 = .ok (.invokestatic 68, 3) := by decide +kernel
theorem dX2_findNexts_8 : decode cX2_findNexts 8 = .ok (.iconst 0, 1) := by decide +kernel
theorem dX2_findNexts_9 : decode cX2_findNexts 9 = .ok (.istore_n 1, 1) := by decide +kernel
theorem dX2_findNexts_10 : decode cX2_findNexts 10 = .ok (.iload_n 1, 1) := by decide +kernel
theorem dX2_findNexts_11 : decode cX2_findNexts 11 = .ok (.aload_n 0, 1) := by decide +kernel
theorem dX2_findNexts_12 : decode cX2_findNexts 12 = .ok (.getfield 31, 3) := by decide +kernel
theorem dX2_findNexts_15 : decode cX2_findNexts 15 = .ok (.getfield 59, 3) := by decide +kernel
theorem dX2_findNexts_18 : decode cX2_findNexts 18 = .ok (.if_icmp .ge 70, 3) := by decide +kernel
theorem dX2_findNexts_21 : decode cX2_findNexts 21 = .ok (.iconst 0, 1) := by decide +kernel
theorem dX2_findNexts_22 : decode cX2_findNexts 22 = .ok (.istore_n 2, 1) := by decide +kernel
theorem dX2_findNexts_23 : decode cX2_findNexts 23 = .ok (.iload_n 2, 1) := by decide +kernel
theorem dX2_findNexts_24 : decode cX2_findNexts 24 = .ok (.aload_n 0, 1) := by decide +kernel
theorem dX2_findNexts_25 : decode cX2_findNexts 25 = .ok (.getfield 31, 3) := by decide +kernel
theorem dX2_findNexts_28 : decode cX2_findNexts 28 = .ok (.getfield 59, 3) := by decide +kernel
theorem dX2_findNexts_31 : decode cX2_findNexts 31 = .ok (.if_icmp .ge 51, 3) := by decide +kernel
theorem dX2_findNexts_34 : decode cX2_findNexts 34 = .ok (.aload_n 0, 1) := by decide +kernel
theorem dX2_findNexts_35 : decode cX2_findNexts 35 = .ok (.getfield 15, 3) := by decide +kernel
theorem dX2_findNexts_38 : decode cX2_findNexts 38 = .ok (.iload_n 1, 1) := by decide +kernel
theorem dX2_findNexts_39 : decode cX2_findNexts 39 = .ok (.iaload, 1) := by decide +kernel
theorem dX2_findNexts_40 : decode cX2_findNexts 40 = .ok (.iload_n 2, 1) := by decide +kernel
theorem dX2_findNexts_41 : decode cX2_findNexts 41 = .ok (.invokestatic 52, 3) := by decide +kernel
theorem dX2_findNexts_44 : decode cX2_findNexts 44 = .ok (.ifCond .eq 32, 3) := by decide +kernel
theorem dX2_findNexts_47 : decode cX2_findNexts 47 = .ok (.aload_n 0, 1) := by decide +kernel
theorem dX2_findNexts_48 : decode cX2_findNexts 48 = .ok (.getfield 9, 3) := by decide +kernel
theorem dX2_findNexts_51 : decode cX2_findNexts 51 = .ok (.iload_n 2, 1) := by decide +kernel
theorem dX2_findNexts_52 : decode cX2_findNexts 52 = .ok (.iaload, 1) := by decide +kernel
theorem dX2_findNexts_53 : decode cX2_findNexts 53 = .ok (.aload_n 0, 1) := by decide +kernel
theorem dX2_findNexts_54 : decode cX2_findNexts 54 = .ok (.getfield 15, 3) := by decide +kernel
theorem dX2_findNexts_57 : decode cX2_findNexts 57 = .ok (.iload_n 1, 1) := by decide +kernel
theorem dX2_findNexts_58 : decode cX2_findNexts 58 = .ok (.iaload, 1) := by decide +kernel
theorem dX2_findNexts_59 : decode cX2_findNexts 59 = .ok (.iand, 1) := by decide +kernel
theorem dX2_findNexts_60 : decode cX2_findNexts 60 = .ok (.ifCond .ne 16, 3) := by decide +kernel
theorem dX2_findNexts_63 : decode cX2_findNexts 63 = .ok (.aload_n 0, 1) := by decide +kernel
theorem dX2_findNexts_64 : decode cX2_findNexts 64 = .ok (.getfield 18, 3) := by decide +kernel
theorem dX2_findNexts_67 : decode cX2_findNexts 67 = .ok (.iload_n 1, 1) := by decide +kernel
theorem dX2_findNexts_68 : decode cX2_findNexts 68 = .ok (.dup2, 1) := by decide +kernel
theorem dX2_findNexts_69 : decode cX2_findNexts 69 = .ok (.iaload, 1) := by decide +kernel
theorem dX2_findNexts_70 : decode cX2_findNexts 70 = .ok (.iload_n 2, 1) := by decide +kernel
theorem dX2_findNexts_71 : decode cX2_findNexts 71 = .ok (.invokestatic 74, 3) := by decide +kernel
theorem dX2_findNexts_74 : decode cX2_findNexts 74 = .ok (.ior, 1) := by decide +kernel
theorem dX2_findNexts_75 : decode cX2_findNexts 75 = .ok (.iastore, 1) := by decide +kernel
theorem dX2_findNexts_76 : decode cX2_findNexts 76 = .ok (.iinc 2 1, 3) := by decide +kernel
theorem dX2_findNexts_79 : decode cX2_findNexts 79 = .ok (.goto (-56), 3) := by decide +kernel
theorem dX2_findNexts_82 : decode cX2_findNexts 82 = .ok (.iinc 1 1, 3) := by decide +kernel
theorem dX2_findNexts_85 : decode cX2_findNexts 85 = .ok (.goto (-75), 3) := by decide +kernel
theorem dX2_findNexts_88 : decode cX2_findNexts 88 = .ok (.return_, 1) := by decide +kernel
theorem dX2_findDepths_0 : decode cX2_findDepths 0 = .ok (.aload_n 0, 1) := by decide +kernel
theorem dX2_findDepths_1 : decode cX2_findDepths 1 = .ok (.getfield 31, 3) := by decide +kernel
theorem dX2_findDepths_4 : decode cX2_findDepths 4 = .ok (.invokevirtual 78, 3) := by decide +kernel
theorem dX2_findDepths_7 : decode cX2_findDepths 7 = .ok (.istore_n 1, 1) := by decide +kernel
theorem dX2_findDepths_8 : decode cX2_findDepths 8 = .ok (.iconst 0, 1) := by decide +kernel
theorem dX2_findDepths_9 : decode cX2_findDepths 9 = .ok (.istore_n 2, 1) := by decide +kernel
theorem dX2_findDepths_10 : decode cX2_findDepths 10 = .ok (.iconst 0, 1) := by decide +kernel
theorem dX2_findDepths_11 : decode cX2_findDepths 11 = .ok (.istore_n 3, 1) := by decide +kernel
theorem dX2_findDepths_12 : decode cX2_findDepths 12 = .ok (.iload_n 2, 1) := by decide +kernel
theorem dX2_findDepths_13 : decode cX2_findDepths 13 = .ok (.iload_n 1, 1) := by decide +kernel
theorem dX2_findDepths_14 : decode cX2_findDepths 14 = .ok (.if_icmp .eq 85, 3) := by decide +kernel
theorem dX2_findDepths_17 : decode cX2_findDepths 17 = .ok (.iload_n 3, 1) := by decide +kernel
theorem dX2_findDepths_18 : decode cX2_findDepths 18 = .ok (.aload_n 0, 1) := by decide +kernel
theorem dX2_findDepths_19 : decode cX2_findDepths 19 = .ok (.getfield 31, 3) := by decide +kernel
theorem dX2_findDepths_22 : decode cX2_findDepths 22 = .ok (.getfield 59, 3) := by decide +kernel
theorem dX2_findDepths_25 : decode cX2_findDepths 25 = .ok (.if_icmp .ge 74, 3) := by decide +kernel
theorem dX2_findDepths_28 : decode cX2_findDepths 28 = .ok (.iinc 3 1, 3) := by decide +kernel
theorem dX2_findDepths_31 : decode cX2_findDepths 31 = .ok (.iload_n 2, 1) := by decide +kernel
theorem dX2_findDepths_32 : decode cX2_findDepths 32 = .ok (.istore 4, 2) := by decide +kernel
theorem dX2_findDepths_34 : decode cX2_findDepths 34 = .ok (.iconst 0, 1) := by decide +kernel
theorem dX2_findDepths_35 : decode cX2_findDepths 35 = .ok (.istore 5, 2) := by decide +kernel
theorem dX2_findDepths_37 : decode cX2_findDepths 37 = .ok (.iload 5, 2) := by decide +kernel
theorem dX2_findDepths_39 : decode cX2_findDepths 39 = .ok (.aload_n 0, 1) := by decide +kernel
theorem dX2_findDepths_40 : decode cX2_findDepths 40 = .ok (.getfield 31, 3) := by decide +kernel
theorem dX2_findDepths_43 : decode cX2_findDepths 43 = .ok (.getfield 59, 3) := by decide +kernel
theorem dX2_findDepths_46 : decode cX2_findDepths 46 = .ok (.if_icmp .ge 50, 3) := by decide +kernel
theorem dX2_findDepths_49 : decode cX2_findDepths 49 = .ok (.iload 4, 2) := by decide +kernel
theorem dX2_findDepths_51 : decode cX2_findDepths 51 = .ok (.iload 5, 2) := by decide +kernel
theorem dX2_findDepths_53 : decode cX2_findDepths 53 = .ok (.invokestatic 52, 3) := by decide +kernel
theorem dX2_findDepths_56 : decode cX2_findDepths 56 = .ok (.ifCond .ne 34, 3) := by decide +kernel
theorem dX2_findDepths_59 : decode cX2_findDepths 59 = .ok (.aload_n 0, 1) := by decide +kernel
theorem dX2_findDepths_60 : decode cX2_findDepths 60 = .ok (.getfield 15, 3) := by decide +kernel
theorem dX2_findDepths_63 : decode cX2_findDepths 63 = .ok (.iload 5, 2) := by decide +kernel
theorem dX2_findDepths_65 : decode cX2_findDepths 65 = .ok (.iaload, 1) := by decide +kernel
theorem dX2_findDepths_66 : decode cX2_findDepths 66 = .ok (.iload 4, 2) := by decide +kernel
theorem dX2_findDepths_68 : decode cX2_findDepths 68 = .ok (.iconst (-1), 1) := by decide +kernel
theorem dX2_findDepths_69 : decode cX2_findDepths 69 = .ok (.ixor, 1) := by decide +kernel
theorem dX2_findDepths_70 : decode cX2_findDepths 70 = .ok (.iand, 1) := by decide +kernel
theorem dX2_findDepths_71 : decode cX2_findDepths 71 = .ok (.ifCond .ne 19, 3) := by decide +kernel
theorem dX2_findDepths_74 : decode cX2_findDepths 74 = .ok (.aload_n 0, 1) := by decide +kernel
theorem dX2_findDepths_75 : decode cX2_findDepths 75 = .ok (.getfield 21, 3) := by decide +kernel
theorem dX2_findDepths_78 : decode cX2_findDepths 78 = .ok (.iload 5, 2) := by decide +kernel
theorem dX2_findDepths_80 : decode cX2_findDepths 80 = .ok (.iload_n 3, 1) := by decide +kernel
theorem dX2_findDepths_81 : decode cX2_findDepths 81 = .ok (.iastore, 1) := by decide +kernel
theorem dX2_findDepths_82 : decode cX2_findDepths 82 = .ok (.iload_n 2, 1) := by decide +kernel
theorem dX2_findDepths_83 : decode cX2_findDepths 83 = .ok (.iload 5, 2) := by decide +kernel
theorem dX2_findDepths_85 : decode cX2_findDepths 85 = .ok (.invokestatic 74, 3) := by decide +kernel
theorem dX2_findDepths_88 : decode cX2_findDepths 88 = .ok (.ior, 1) := by decide +kernel
theorem dX2_findDepths_89 : decode cX2_findDepths 89 = .ok (.istore_n 2, 1) := by decide +kernel
theorem dX2_findDepths_90 : decode cX2_findDepths 90 = .ok (.iinc 5 1, 3) := by decide +kernel
theorem dX2_findDepths_93 : decode cX2_findDepths 93 = .ok (.goto (-56), 3) := by decide +kernel
theorem dX2_findDepths_96 : decode cX2_findDepths 96 = .ok (.goto (-84), 3) := by decide +kernel
theorem dX2_findDepths_99 : decode cX2_findDepths 99 = .ok (.aload_n 0, 1) := by decide +kernel
theorem dX2_findDepths_100 : decode cX2_findDepths 100 = .ok (.iload_n 3, 1) := by decide +kernel
theorem dX2_findDepths_101 : decode cX2_findDepths 101 = .ok (.putfield 24, 3) := by decide +kernel
theorem dX2_findDepths_104 : decode cX2_findDepths 104 = .ok (.return_, 1) := by decide +kernel
theorem dX3_init_0 : decode cX3_init 0 = .ok (.aload_n 0, 1) := by decide +kernel
theorem dX3_init_1 : decode cX3_init 1 = .ok (.invokespecial 3, 3) := by decide +kernel
theorem dX3_init_4 : decode cX3_init 4 = .ok (.aload_n 0, 1) := by decide +kernel
theorem dX3_init_5 : decode cX3_init 5 = .ok (.bipush 10, 2) := by decide +kernel
theorem dX3_init_7 : decode cX3_init 7 = .ok (.newarray .int, 2) := by decide +kernel
theorem dX3_init_9 : decode cX3_init 9 = .ok (.putfield 9, 3) := by decide +kernel
theorem dX3_init_12 : decode cX3_init 12 = .ok (.aload_n 0, 1) := by decide +kernel
theorem dX3_init_13 : decode cX3_init 13 = .ok (.bipush 10, 2) := by decide +kernel
theorem dX3_init_15 : decode cX3_init 15 = .ok (.newarray .int, 2) := by decide +kernel
theorem dX3_init_17 : decode cX3_init 17 = .ok (.putfield 15, 3) := by decide +kernel
theorem dX3_init_20 : decode cX3_init 20 = .ok (.aload_n 0, 1) := by decide +kernel
theorem dX3_init_21 : decode cX3_init 21 = .ok (.iconst 0, 1) := by decide +kernel
theorem dX3_init_22 : decode cX3_init 22 = .ok (.putfield 18, 3) := by decide +kernel
theorem dX3_init_25 : decode cX3_init 25 = .ok (.aload_n 0, 1) := by decide +kernel
theorem dX3_init_26 : decode cX3_init 26 = .ok (.aload_n 1, 1) := by decide +kernel
theorem dX3_init_27 : decode cX3_init 27 = .ok (.putfield 22, 3) := by decide +kernel
theorem dX3_init_30 : decode cX3_init 30 = .ok (.return_, 1) := by decide +kernel
theorem dX3_jobAt_0 : decode cX3_jobAt 0 = .ok (.iload_n 1, 1) := by decide +kernel
theorem dX3_jobAt_1 : decode cX3_jobAt 1 = .ok (.aload_n 0, 1) := by decide +kernel
theorem dX3_jobAt_2 : decode cX3_jobAt 2 = .ok (.getfield 18, 3) := by decide +kernel
theorem dX3_jobAt_5 : decode cX3_jobAt 5 = .ok (.if_icmp .ge 12, 3) := by decide +kernel
theorem dX3_jobAt_8 : decode cX3_jobAt 8 = .ok (.aload_n 0, 1) := by decide +kernel
theorem dX3_jobAt_9 : decode cX3_jobAt 9 = .ok (.getfield 9, 3) := by decide +kernel
theorem dX3_jobAt_12 : decode cX3_jobAt 12 = .ok (.iload_n 1, 1) := by decide +kernel
theorem dX3_jobAt_13 : decode cX3_jobAt 13 = .ok (.iaload, 1) := by decide +kernel
theorem dX3_jobAt_14 : decode cX3_jobAt 14 = .ok (.goto 5, 3) := by decide +kernel
theorem dX3_jobAt_17 : decode cX3_jobAt 17 = .ok (.bipush (-3), 2) := by decide +kernel
theorem dX3_jobAt_19 : decode cX3_jobAt 19 = .ok (.ireturn, 1) := by decide +kernel
theorem dX3_close_0 : decode cX3_close 0 = .ok (.aload_n 0, 1) := by decide +kernel
theorem dX3_close_1 : decode cX3_close 1 = .ok (.getfield 9, 3) := by decide +kernel
theorem dX3_close_4 : decode cX3_close 4 = .ok (.iconst 0, 1) := by decide +kernel
theorem dX3_close_5 : decode cX3_close 5 = .ok (.iload_n 1, 1) := by decide +kernel
theorem dX3_close_6 : decode cX3_close 6 = .ok (.iastore, 1) := by decide +kernel
theorem dX3_close_7 : decode cX3_close 7 = .ok (.aload_n 0, 1) := by decide +kernel
theorem dX3_close_8 : decode cX3_close 8 = .ok (.iconst 1, 1) := by decide +kernel
theorem dX3_close_9 : decode cX3_close 9 = .ok (.putfield 18, 3) := by decide +kernel
theorem dX3_close_12 : decode cX3_close 12 = .ok (.iload_n 1, 1) := by decide +kernel
theorem dX3_close_13 : decode cX3_close 13 = .ok (.iload_n 2, 1) := by decide +kernel
theorem dX3_close_14 : decode cX3_close 14 = .ok (.if_icmp .ne 4, 3) := by decide +kernel
theorem dX3_close_17 : decode cX3_close 17 = .ok (.return_, 1) := by decide +kernel
theorem dX3_close_18 : decode cX3_close 18 = .ok (.aload_n 0, 1) := by decide +kernel
theorem dX3_close_19 : decode cX3_close 19 = .ok (.iload_n 1, 1) := by decide +kernel
theorem dX3_close_20 : decode cX3_close 20 = .ok (.invokevirtual 26, 3) := by decide +kernel
theorem dX3_close_23 : decode cX3_close 23 = .ok (.iload_n 2, 1) := by decide +kernel
theorem dX3_close_24 : decode cX3_close 24 = .ok (.istore_n 3, 1) := by decide +kernel
theorem dX3_close_25 : decode cX3_close 25 = .ok (.aload_n 0, 1) := by decide +kernel
theorem dX3_close_26 : decode cX3_close 26 = .ok (.getfield 15, 3) := by decide +kernel
theorem dX3_close_29 : decode cX3_close 29 = .ok (.iload_n 2, 1) := by decide +kernel
theorem dX3_close_30 : decode cX3_close 30 = .ok (.iaload, 1) := by decide +kernel
theorem dX3_close_31 : decode cX3_close 31 = .ok (.istore 4, 2) := by decide +kernel
theorem dX3_close_33 : decode cX3_close 33 = .ok (.iload 4, 2) := by decide +kernel
theorem dX3_close_35 : decode cX3_close 35 = .ok (.ifCond .le 48, 3) := by decide +kernel
theorem dX3_close_38 : decode cX3_close 38 = .ok (.aload_n 0, 1) := by decide +kernel
theorem dX3_close_39 : decode cX3_close 39 = .ok (.getfield 18, 3) := by decide +kernel
theorem dX3_close_42 : decode cX3_close 42 = .ok (.bipush 10, 2) := by decide +kernel
theorem dX3_close_44 : decode cX3_close 44 = .ok (.if_icmp .ge 39, 3) := by decide +kernel
theorem dX3_close_47 : decode cX3_close 47 = .ok (.aload_n 0, 1) := by decide +kernel
theorem dX3_close_48 : decode cX3_close 48 = .ok (.getfield 9, 3) := by decide +kernel
theorem dX3_close_51 : decode cX3_close 51 = .ok (.aload_n 0, 1) := by decide +kernel
theorem dX3_close_52 : decode cX3_close 52 = .ok (.getfield 18, 3) := by decide +kernel
theorem dX3_close_55 : decode cX3_close 55 = .ok (.iload_n 3, 1) := by decide +kernel
theorem dX3_close_56 : decode cX3_close 56 = .ok (.iastore, 1) := by decide +kernel
theorem dX3_close_57 : decode cX3_close 57 = .ok (.aload_n 0, 1) := by decide +kernel
theorem dX3_close_58 : decode cX3_close 58 = .ok (.dup, 1) := by decide +kernel
theorem dX3_close_59 : decode cX3_close 59 = .ok (.getfield 18, 3) := by decide +kernel
theorem dX3_close_62 : decode cX3_close 62 = .ok (.iconst 1, 1) := by decide +kernel
theorem dX3_close_63 : decode cX3_close 63 = .ok (.iadd, 1) := by decide +kernel
theorem dX3_close_64 : decode cX3_close 64 = .ok (.putfield 18, 3) := by decide +kernel
theorem dX3_close_67 : decode cX3_close 67 = .ok (.aload_n 0, 1) := by decide +kernel
theorem dX3_close_68 : decode cX3_close 68 = .ok (.iload_n 3, 1) := by decide +kernel
theorem dX3_close_69 : decode cX3_close 69 = .ok (.iload 4, 2) := by decide +kernel
theorem dX3_close_71 : decode cX3_close 71 = .ok (.iconst 1, 1) := by decide +kernel
theorem dX3_close_72 : decode cX3_close 72 = .ok (.isub, 1) := by decide +kernel
theorem dX3_close_73 : decode cX3_close 73 = .ok (.invokevirtual 30, 3) := by decide +kernel
theorem dX3_close_76 : decode cX3_close 76 = .ok (.istore_n 3, 1) := by decide +kernel
theorem dX3_close_77 : decode cX3_close 77 = .ok (.iinc 4 (-1), 3) := by decide +kernel
theorem dX3_close_80 : decode cX3_close 80 = .ok (.goto (-47), 3) := by decide +kernel
theorem dX3_close_83 : decode cX3_close 83 = .ok (.return_, 1) := by decide +kernel
theorem dX3_measure_0 : decode cX3_measure 0 = .ok (.aload_n 0, 1) := by decide +kernel
theorem dX3_measure_1 : decode cX3_measure 1 = .ok (.getfield 15, 3) := by decide +kernel
theorem dX3_measure_4 : decode cX3_measure 4 = .ok (.iconst 0, 1) := by decide +kernel
theorem dX3_measure_5 : decode cX3_measure 5 = .ok (.invokestatic 34, 3) := by decide +kernel
theorem dX3_measure_8 : decode cX3_measure 8 = .ok (.iload_n 1, 1) := by decide +kernel
theorem dX3_measure_9 : decode cX3_measure 9 = .ok (.invokestatic 40, 3) := by decide +kernel
theorem dX3_measure_12 : decode cX3_measure 12 = .ok (.istore_n 2, 1) := by decide +kernel
theorem dX3_measure_13 : decode cX3_measure 13 = .ok (.iconst 1, 1) := by decide +kernel
theorem dX3_measure_14 : decode cX3_measure 14 = .ok (.istore_n 3, 1) := by decide +kernel
theorem dX3_measure_15 : decode cX3_measure 15 = .ok (.iload_n 3, 1) := by decide +kernel
theorem dX3_measure_16 : decode cX3_measure 16 = .ok (.aload_n 0, 1) := by decide +kernel
theorem dX3_measure_17 : decode cX3_measure 17 = .ok (.getfield 22, 3) := by decide +kernel
theorem dX3_measure_20 : decode cX3_measure 20 = .ok (.getfield 44, 3) := by decide +kernel
theorem dX3_measure_23 : decode cX3_measure 23 = .ok (.if_icmp .ge 78, 3) := by decide +kernel
theorem dX3_measure_26 : decode cX3_measure 26 = .ok (.iload_n 2, 1) := by decide +kernel
theorem dX3_measure_27 : decode cX3_measure 27 = .ok (.istore 4, 2) := by decide +kernel
theorem dX3_measure_29 : decode cX3_measure 29 = .ok (.iconst 0, 1) := by decide +kernel
theorem dX3_measure_30 : decode cX3_measure 30 = .ok (.istore 5, 2) := by decide +kernel
theorem dX3_measure_32 : decode cX3_measure 32 = .ok (.iload 5, 2) := by decide +kernel
theorem dX3_measure_34 : decode cX3_measure 34 = .ok (.aload_n 0, 1) := by decide +kernel
theorem dX3_measure_35 : decode cX3_measure 35 = .ok (.getfield 22, 3) := by decide +kernel
theorem dX3_measure_38 : decode cX3_measure 38 = .ok (.getfield 44, 3) := by decide +kernel
theorem dX3_measure_41 : decode cX3_measure 41 = .ok (.if_icmp .ge 51, 3) := by decide +kernel
theorem dX3_measure_44 : decode cX3_measure 44 = .ok (.iload_n 2, 1) := by decide +kernel
theorem dX3_measure_45 : decode cX3_measure 45 = .ok (.iload 5, 2) := by decide +kernel
theorem dX3_measure_47 : decode cX3_measure 47 = .ok (.invokestatic 49, 3) := by decide +kernel
theorem dX3_measure_50 : decode cX3_measure 50 = .ok (.ifCond .ne 36, 3) := by decide +kernel
theorem dX3_measure_53 : decode cX3_measure 53 = .ok (.aload_n 0, 1) := by decide +kernel
theorem dX3_measure_54 : decode cX3_measure 54 = .ok (.getfield 22, 3) := by decide +kernel
theorem dX3_measure_57 : decode cX3_measure 57 = .ok (.getfield 53, 3) := by decide +kernel
theorem dX3_measure_60 : decode cX3_measure 60 = .ok (.iload 5, 2) := by decide +kernel
theorem dX3_measure_62 : decode cX3_measure 62 = .ok (.iaload, 1) := by decide +kernel
theorem dX3_measure_63 : decode cX3_measure 63 = .ok (.iload_n 2, 1) := by decide +kernel
theorem dX3_measure_64 : decode cX3_measure 64 = .ok (.iand, 1) := by decide +kernel
theorem dX3_measure_65 : decode cX3_measure 65 = .ok (.ifCond .eq 21, 3) := by decide +kernel
theorem dX3_measure_68 : decode cX3_measure 68 = .ok (.aload_n 0, 1) := by decide +kernel
theorem dX3_measure_69 : decode cX3_measure 69 = .ok (.getfield 15, 3) := by decide +kernel
theorem dX3_measure_72 : decode cX3_measure 72 = .ok (.iload 5, 2) := by decide +kernel
theorem dX3_measure_74 : decode cX3_measure 74 = .ok (.iload_n 3, 1) := by decide +kernel
theorem dX3_measure_75 : decode cX3_measure 75 = .ok (.iastore, 1) := by decide +kernel
theorem dX3_measure_76 : decode cX3_measure 76 = .ok (.iload 4, 2) := by decide +kernel
theorem dX3_measure_78 : decode cX3_measure 78 = .ok (.iload 5, 2) := by decide +kernel
theorem dX3_measure_80 : decode cX3_measure 80 = .ok (.invokestatic 40, 3) := by decide +kernel
theorem dX3_measure_83 : decode cX3_measure 83 = .ok (.ior, 1) := by decide +kernel
theorem dX3_measure_84 : decode cX3_measure 84 = .ok (.istore 4, 2) := by decide +kernel
theorem dX3_measure_86 : decode cX3_measure 86 = .ok (.iinc 5 1, 3) := by decide +kernel
theorem dX3_measure_89 : decode cX3_measure 89 = .ok (.goto (-57), 3) := by decide +kernel
theorem dX3_measure_92 : decode cX3_measure 92 = .ok (.iload 4, 2) := by decide +kernel
theorem dX3_measure_94 : decode cX3_measure 94 = .ok (.istore_n 2, 1) := by decide +kernel
theorem dX3_measure_95 : decode cX3_measure 95 = .ok (.iinc 3 1, 3) := by decide +kernel
theorem dX3_measure_98 : decode cX3_measure 98 = .ok (.goto (-83), 3) := by decide +kernel
theorem dX3_measure_101 : decode cX3_measure 101 = .ok (.return_, 1) := by decide +kernel
theorem dX3_firstNearer_0 : decode cX3_firstNearer 0 = .ok (.iconst 0, 1) := by decide +kernel
theorem dX3_firstNearer_1 : decode cX3_firstNearer 1 = .ok (.istore_n 3, 1) := by decide +kernel
theorem dX3_firstNearer_2 : decode cX3_firstNearer 2 = .ok (.iload_n 3, 1) := by decide +kernel
theorem dX3_firstNearer_3 : decode cX3_firstNearer 3 = .ok (.aload_n 0, 1) := by decide +kernel
theorem dX3_firstNearer_4 : decode cX3_firstNearer 4 = .ok (.getfield 22, 3) := by decide +kernel
theorem dX3_firstNearer_7 : decode cX3_firstNearer 7 = .ok (.getfield 44, 3) := by decide +kernel
theorem dX3_firstNearer_10 : decode cX3_firstNearer 10 = .ok (.if_icmp .ge 37, 3) := by decide +kernel
theorem dX3_firstNearer_13 : decode cX3_firstNearer 13 = .ok (.aload_n 0, 1) := by decide +kernel
theorem dX3_firstNearer_14 : decode cX3_firstNearer 14 = .ok (.getfield 22, 3) := by decide +kernel
theorem dX3_firstNearer_17 : decode cX3_firstNearer 17 = .ok (.getfield 53, 3) := by decide +kernel
theorem dX3_firstNearer_20 : decode cX3_firstNearer 20 = .ok (.iload_n 1, 1) := by decide +kernel
theorem dX3_firstNearer_21 : decode cX3_firstNearer 21 = .ok (.iaload, 1) := by decide +kernel
theorem dX3_firstNearer_22 : decode cX3_firstNearer 22 = .ok (.iload_n 3, 1) := by decide +kernel
theorem dX3_firstNearer_23 : decode cX3_firstNearer 23 = .ok (.invokestatic 49, 3) := by decide +kernel
theorem dX3_firstNearer_26 : decode cX3_firstNearer 26 = .ok (.ifCond .eq 15, 3) := by decide +kernel
theorem dX3_firstNearer_29 : decode cX3_firstNearer 29 = .ok (.aload_n 0, 1) := by decide +kernel
theorem dX3_firstNearer_30 : decode cX3_firstNearer 30 = .ok (.getfield 15, 3) := by decide +kernel
theorem dX3_firstNearer_33 : decode cX3_firstNearer 33 = .ok (.iload_n 3, 1) := by decide +kernel
theorem dX3_firstNearer_34 : decode cX3_firstNearer 34 = .ok (.iaload, 1) := by decide +kernel
theorem dX3_firstNearer_35 : decode cX3_firstNearer 35 = .ok (.iload_n 2, 1) := by decide +kernel
theorem dX3_firstNearer_36 : decode cX3_firstNearer 36 = .ok (.if_icmp .ne 5, 3) := by decide +kernel
theorem dX3_firstNearer_39 : decode cX3_firstNearer 39 = .ok (.iload_n 3, 1) := by decide +kernel
theorem dX3_firstNearer_40 : decode cX3_firstNearer 40 = .ok (.ireturn, 1) := by decide +kernel
theorem dX3_firstNearer_41 : decode cX3_firstNearer 41 = .ok (.iinc 3 1, 3) := by decide +kernel
theorem dX3_firstNearer_44 : decode cX3_firstNearer 44 = .ok (.goto (-42), 3) := by decide +kernel
theorem dX3_firstNearer_47 : decode cX3_firstNearer 47 = .ok (.iload_n 1, 1) := by decide +kernel
theorem dX3_firstNearer_48 : decode cX3_firstNearer 48 = .ok (.ireturn, 1) := by decide +kernel
theorem dX4_init_0 : decode cX4_init 0 = .ok (.aload_n 0, 1) := by decide +kernel
theorem dX4_init_1 : decode cX4_init 1 = .ok (.invokespecial 3, 3) := by decide +kernel
theorem dX4_init_4 : decode cX4_init 4 = .ok (.aload_n 0, 1) := by decide +kernel
theorem dX4_init_5 : decode cX4_init 5 = .ok (.bipush 16, 2) := by decide +kernel
theorem dX4_init_7 : decode cX4_init 7 = .ok (.newarray .int, 2) := by decide +kernel
theorem dX4_init_9 : decode cX4_init 9 = .ok (.putfield 9, 3) := by decide +kernel
theorem dX4_init_12 : decode cX4_init 12 = .ok (.aload_n 0, 1) := by decide +kernel
theorem dX4_init_13 : decode cX4_init 13 = .ok (.iconst (-1), 1) := by decide +kernel
theorem dX4_init_14 : decode cX4_init 14 = .ok (.putfield 15, 3) := by decide +kernel
theorem dX4_init_17 : decode cX4_init 17 = .ok (.aload_n 0, 1) := by decide +kernel
theorem dX4_init_18 : decode cX4_init 18 = .ok (.iconst 0, 1) := by decide +kernel
theorem dX4_init_19 : decode cX4_init 19 = .ok (.putfield 19, 3) := by decide +kernel
theorem dX4_init_22 : decode cX4_init 22 = .ok (.return_, 1) := by decide +kernel
theorem dX4_become_0 : decode cX4_become 0 = .ok (.aload_n 0, 1) := by decide +kernel
theorem dX4_become_1 : decode cX4_become 1 = .ok (.iload_n 1, 1) := by decide +kernel
theorem dX4_become_2 : decode cX4_become 2 = .ok (.putfield 15, 3) := by decide +kernel
theorem dX4_become_5 : decode cX4_become 5 = .ok (.aload_n 0, 1) := by decide +kernel
theorem dX4_become_6 : decode cX4_become 6 = .ok (.iload_n 2, 1) := by decide +kernel
theorem dX4_become_7 : decode cX4_become 7 = .ok (.putfield 19, 3) := by decide +kernel
theorem dX4_become_10 : decode cX4_become 10 = .ok (.aload_n 0, 1) := by decide +kernel
theorem dX4_become_11 : decode cX4_become 11 = .ok (.getfield 9, 3) := by decide +kernel
theorem dX4_become_14 : decode cX4_become 14 = .ok (.iconst 0, 1) := by decide +kernel
theorem dX4_become_15 : decode cX4_become 15 = .ok (.invokestatic 22, 3) := by decide +kernel
theorem dX4_become_18 : decode cX4_become 18 = .ok (.return_, 1) := by decide +kernel
theorem dX4_isMissing_0 : decode cX4_isMissing 0 = .ok (.aload_n 0, 1) := by decide +kernel
theorem dX4_isMissing_1 : decode cX4_isMissing 1 = .ok (.getfield 15, 3) := by decide +kernel
theorem dX4_isMissing_4 : decode cX4_isMissing 4 = .ok (.iconst (-1), 1) := by decide +kernel
theorem dX4_isMissing_5 : decode cX4_isMissing 5 = .ok (.if_icmp .ne 7, 3) := by decide +kernel
theorem dX4_isMissing_8 : decode cX4_isMissing 8 = .ok (.iconst 1, 1) := by decide +kernel
theorem dX4_isMissing_9 : decode cX4_isMissing 9 = .ok (.goto 4, 3) := by decide +kernel
theorem dX4_isMissing_12 : decode cX4_isMissing 12 = .ok (.iconst 0, 1) := by decide +kernel
theorem dX4_isMissing_13 : decode cX4_isMissing 13 = .ok (.ireturn, 1) := by decide +kernel
theorem dX4_hasPlaces_0 : decode cX4_hasPlaces 0 = .ok (.iload_n 1, 1) := by decide +kernel
theorem dX4_hasPlaces_1 : decode cX4_hasPlaces 1 = .ok (.ifCond .lt 21, 3) := by decide +kernel
theorem dX4_hasPlaces_4 : decode cX4_hasPlaces 4 = .ok (.iload_n 2, 1) := by decide +kernel
theorem dX4_hasPlaces_5 : decode cX4_hasPlaces 5 = .ok (.ifCond .lt 17, 3) := by decide +kernel
theorem dX4_hasPlaces_8 : decode cX4_hasPlaces 8 = .ok (.iload_n 1, 1) := by decide +kernel
theorem dX4_hasPlaces_9 : decode cX4_hasPlaces 9 = .ok (.aload_n 0, 1) := by decide +kernel
theorem dX4_hasPlaces_10 : decode cX4_hasPlaces 10 = .ok (.getfield 19, 3) := by decide +kernel
theorem dX4_hasPlaces_13 : decode cX4_hasPlaces 13 = .ok (.iload_n 2, 1) := by decide +kernel
theorem dX4_hasPlaces_14 : decode cX4_hasPlaces 14 = .ok (.isub, 1) := by decide +kernel
theorem dX4_hasPlaces_15 : decode cX4_hasPlaces 15 = .ok (.if_icmp .gt 7, 3) := by decide +kernel
theorem dX4_hasPlaces_18 : decode cX4_hasPlaces 18 = .ok (.iconst 1, 1) := by decide +kernel
theorem dX4_hasPlaces_19 : decode cX4_hasPlaces 19 = .ok (.goto 4, 3) := by decide +kernel
theorem dX4_hasPlaces_22 : decode cX4_hasPlaces 22 = .ok (.iconst 0, 1) := by decide +kernel
theorem dX4_hasPlaces_23 : decode cX4_hasPlaces 23 = .ok (.ireturn, 1) := by decide +kernel
theorem dX4_write_0 : decode cX4_write 0 = .ok (.aload_n 0, 1) := by decide +kernel
theorem dX4_write_1 : decode cX4_write 1 = .ok (.getfield 9, 3) := by decide +kernel
theorem dX4_write_4 : decode cX4_write 4 = .ok (.iload_n 1, 1) := by decide +kernel
theorem dX4_write_5 : decode cX4_write 5 = .ok (.aload_n 0, 1) := by decide +kernel
theorem dX4_write_6 : decode cX4_write 6 = .ok (.iload_n 2, 1) := by decide +kernel
theorem dX4_write_7 : decode cX4_write 7 = .ok (.invokevirtual 28, 3) := by decide +kernel
theorem dX4_write_10 : decode cX4_write 10 = .ok (.iastore, 1) := by decide +kernel
theorem dX4_write_11 : decode cX4_write 11 = .ok (.return_, 1) := by decide +kernel
theorem dX4_cut_0 : decode cX4_cut 0 = .ok (.aload_n 0, 1) := by decide +kernel
theorem dX4_cut_1 : decode cX4_cut 1 = .ok (.getfield 15, 3) := by decide +kernel
theorem dX4_cut_4 : decode cX4_cut 4 = .ok (.lookupswitch 34 #[(0, 28), (1, 31)], 28) := by decide +kernel
theorem dX4_cut_32 : decode cX4_cut 32 = .ok (.iload_n 1, 1) := by decide +kernel
theorem dX4_cut_33 : decode cX4_cut 33 = .ok (.i2b, 1) := by decide +kernel
theorem dX4_cut_34 : decode cX4_cut 34 = .ok (.ireturn, 1) := by decide +kernel
theorem dX4_cut_35 : decode cX4_cut 35 = .ok (.iload_n 1, 1) := by decide +kernel
theorem dX4_cut_36 : decode cX4_cut 36 = .ok (.i2s, 1) := by decide +kernel
theorem dX4_cut_37 : decode cX4_cut 37 = .ok (.ireturn, 1) := by decide +kernel
theorem dX4_cut_38 : decode cX4_cut 38 = .ok (.iload_n 1, 1) := by decide +kernel
theorem dX4_cut_39 : decode cX4_cut 39 = .ok (.ireturn, 1) := by decide +kernel
theorem dX5_init_0 : decode cX5_init 0 = .ok (.aload_n 0, 1) := by decide +kernel
theorem dX5_init_1 : decode cX5_init 1 = .ok (.invokespecial 3, 3) := by decide +kernel
theorem dX5_init_4 : decode cX5_init 4 = .ok (.aload_n 0, 1) := by decide +kernel
theorem dX5_init_5 : decode cX5_init 5 = .ok (.bipush 10, 2) := by decide +kernel
theorem dX5_init_7 : decode cX5_init 7 = .ok (.newarray .int, 2) := by decide +kernel
theorem dX5_init_9 : decode cX5_init 9 = .ok (.putfield 9, 3) := by decide +kernel
theorem dX5_init_12 : decode cX5_init 12 = .ok (.aload_n 0, 1) := by decide +kernel
theorem dX5_init_13 : decode cX5_init 13 = .ok (.bipush 11, 2) := by decide +kernel
theorem dX5_init_15 : decode cX5_init 15 = .ok (.newarray .int, 2) := by decide +kernel
theorem dX5_init_17 : decode cX5_init 17 = .ok (.putfield 15, 3) := by decide +kernel
theorem dX5_init_20 : decode cX5_init 20 = .ok (.aload_n 0, 1) := by decide +kernel
theorem dX5_init_21 : decode cX5_init 21 = .ok (.bipush 11, 2) := by decide +kernel
theorem dX5_init_23 : decode cX5_init 23 = .ok (.newarray .int, 2) := by decide +kernel
theorem dX5_init_25 : decode cX5_init 25 = .ok (.putfield 18, 3) := by decide +kernel
theorem dX5_init_28 : decode cX5_init 28 = .ok (.aload_n 0, 1) := by decide +kernel
theorem dX5_init_29 : decode cX5_init 29 = .ok (.bipush 11, 2) := by decide +kernel
theorem dX5_init_31 : decode cX5_init 31 = .ok (.newarray .int, 2) := by decide +kernel
theorem dX5_init_33 : decode cX5_init 33 = .ok (.putfield 21, 3) := by decide +kernel
theorem dX5_init_36 : decode cX5_init 36 = .ok (.aload_n 0, 1) := by decide +kernel
theorem dX5_init_37 : decode cX5_init 37 = .ok (.bipush 10, 2) := by decide +kernel
theorem dX5_init_39 : decode cX5_init 39 = .ok (.newarray .int, 2) := by decide +kernel
theorem dX5_init_41 : decode cX5_init 41 = .ok (.putfield 24, 3) := by decide +kernel
theorem dX5_init_44 : decode cX5_init 44 = .ok (.aload_n 0, 1) := by decide +kernel
theorem dX5_init_45 : decode cX5_init 45 = .ok (.iconst 0, 1) := by decide +kernel
theorem dX5_init_46 : decode cX5_init 46 = .ok (.putfield 27, 3) := by decide +kernel
theorem dX5_init_49 : decode cX5_init 49 = .ok (.aload_n 0, 1) := by decide +kernel
theorem dX5_init_50 : decode cX5_init 50 = .ok (.iconst 0, 1) := by decide +kernel
theorem dX5_init_51 : decode cX5_init 51 = .ok (.putfield 31, 3) := by decide +kernel
theorem dX5_init_54 : decode cX5_init 54 = .ok (.aload_n 0, 1) := by decide +kernel
theorem dX5_init_55 : decode cX5_init 55 = .ok (.iconst 0, 1) := by decide +kernel
theorem dX5_init_56 : decode cX5_init 56 = .ok (.putfield 34, 3) := by decide +kernel
theorem dX5_init_59 : decode cX5_init 59 = .ok (.aload_n 0, 1) := by decide +kernel
theorem dX5_init_60 : decode cX5_init 60 = .ok (.bipush 20, 2) := by decide +kernel
theorem dX5_init_62 : decode cX5_init 62 = .ok (.newarray .int, 2) := by decide +kernel
theorem dX5_init_64 : decode cX5_init 64 = .ok (.putfield 37, 3) := by decide +kernel
theorem dX5_init_67 : decode cX5_init 67 = .ok (.aload_n 0, 1) := by decide +kernel
theorem dX5_init_68 : decode cX5_init 68 = .ok (.bipush 20, 2) := by decide +kernel
theorem dX5_init_70 : decode cX5_init 70 = .ok (.newarray .int, 2) := by decide +kernel
theorem dX5_init_72 : decode cX5_init 72 = .ok (.putfield 40, 3) := by decide +kernel
theorem dX5_init_75 : decode cX5_init 75 = .ok (.aload_n 0, 1) := by decide +kernel
theorem dX5_init_76 : decode cX5_init 76 = .ok (.getfield 15, 3) := by decide +kernel
theorem dX5_init_79 : decode cX5_init 79 = .ok (.iconst 1, 1) := by decide +kernel
theorem dX5_init_80 : decode cX5_init 80 = .ok (.invokestatic 43, 3) := by decide +kernel
theorem dX5_init_83 : decode cX5_init 83 = .ok (.aload_n 0, 1) := by decide +kernel
theorem dX5_init_84 : decode cX5_init 84 = .ok (.getfield 18, 3) := by decide +kernel
theorem dX5_init_87 : decode cX5_init 87 = .ok (.bipush 64, 2) := by decide +kernel
theorem dX5_init_89 : decode cX5_init 89 = .ok (.invokestatic 43, 3) := by decide +kernel
theorem dX5_init_92 : decode cX5_init 92 = .ok (.aload_n 0, 1) := by decide +kernel
theorem dX5_init_93 : decode cX5_init 93 = .ok (.getfield 21, 3) := by decide +kernel
theorem dX5_init_96 : decode cX5_init 96 = .ok (.bipush (-3), 2) := by decide +kernel
theorem dX5_init_98 : decode cX5_init 98 = .ok (.invokestatic 43, 3) := by decide +kernel
theorem dX5_init_101 : decode cX5_init 101 = .ok (.return_, 1) := by decide +kernel
theorem dX5_has_0 : decode cX5_has 0 = .ok (.iload_n 1, 1) := by decide +kernel
theorem dX5_has_1 : decode cX5_has 1 = .ok (.ifCond .lt 15, 3) := by decide +kernel
theorem dX5_has_4 : decode cX5_has 4 = .ok (.iload_n 1, 1) := by decide +kernel
theorem dX5_has_5 : decode cX5_has 5 = .ok (.aload_n 0, 1) := by decide +kernel
theorem dX5_has_6 : decode cX5_has 6 = .ok (.getfield 27, 3) := by decide +kernel
theorem dX5_has_9 : decode cX5_has 9 = .ok (.if_icmp .ge 7, 3) := by decide +kernel
theorem dX5_has_12 : decode cX5_has 12 = .ok (.iconst 1, 1) := by decide +kernel
theorem dX5_has_13 : decode cX5_has 13 = .ok (.goto 4, 3) := by decide +kernel
theorem dX5_has_16 : decode cX5_has 16 = .ok (.iconst 0, 1) := by decide +kernel
theorem dX5_has_17 : decode cX5_has 17 = .ok (.ireturn, 1) := by decide +kernel
theorem dX5_all_0 : decode cX5_all 0 = .ok (.aload_n 0, 1) := by decide +kernel
theorem dX5_all_1 : decode cX5_all 1 = .ok (.getfield 27, 3) := by decide +kernel
theorem dX5_all_4 : decode cX5_all 4 = .ok (.invokestatic 49, 3) := by decide +kernel
theorem dX5_all_7 : decode cX5_all 7 = .ok (.iconst 1, 1) := by decide +kernel
theorem dX5_all_8 : decode cX5_all 8 = .ok (.isub, 1) := by decide +kernel
theorem dX5_all_9 : decode cX5_all 9 = .ok (.ireturn, 1) := by decide +kernel
theorem dX5_add_0 : decode cX5_add 0 = .ok (.aload_n 0, 1) := by decide +kernel
theorem dX5_add_1 : decode cX5_add 1 = .ok (.getfield 27, 3) := by decide +kernel
theorem dX5_add_4 : decode cX5_add 4 = .ok (.istore 4, 2) := by decide +kernel
theorem dX5_add_6 : decode cX5_add 6 = .ok (.aload_n 0, 1) := by decide +kernel
theorem dX5_add_7 : decode cX5_add 7 = .ok (.bipush 10, 2) := by decide +kernel
theorem dX5_add_9 : decode cX5_add 9 = .ok (.iconst 0, 1) := by decide +kernel
theorem dX5_add_10 : decode cX5_add 10 = .ok (.invokevirtual 53, 3) := by decide +kernel
theorem dX5_add_13 : decode cX5_add 13 = .ok (.aload_n 0, 1) := by decide +kernel
theorem dX5_add_14 : decode cX5_add 14 = .ok (.getfield 9, 3) := by decide +kernel
theorem dX5_add_17 : decode cX5_add 17 = .ok (.iload 4, 2) := by decide +kernel
theorem dX5_add_19 : decode cX5_add 19 = .ok (.iload_n 1, 1) := by decide +kernel
theorem dX5_add_20 : decode cX5_add 20 = .ok (.iastore, 1) := by decide +kernel
theorem dX5_add_21 : decode cX5_add 21 = .ok (.aload_n 0, 1) := by decide +kernel
theorem dX5_add_22 : decode cX5_add 22 = .ok (.getfield 15, 3) := by decide +kernel
theorem dX5_add_25 : decode cX5_add 25 = .ok (.iload 4, 2) := by decide +kernel
theorem dX5_add_27 : decode cX5_add 27 = .ok (.iload_n 1, 1) := by decide +kernel
theorem dX5_add_28 : decode cX5_add 28 = .ok (.iconst 2, 1) := by decide +kernel
theorem dX5_add_29 : decode cX5_add 29 = .ok (.if_icmp .ne 7, 3) := by decide +kernel
theorem dX5_add_32 : decode cX5_add 32 = .ok (.iload_n 2, 1) := by decide +kernel
theorem dX5_add_33 : decode cX5_add 33 = .ok (.goto 4, 3) := by decide +kernel
theorem dX5_add_36 : decode cX5_add 36 = .ok (.iconst 1, 1) := by decide +kernel
theorem dX5_add_37 : decode cX5_add 37 = .ok (.iastore, 1) := by decide +kernel
theorem dX5_add_38 : decode cX5_add 38 = .ok (.aload_n 0, 1) := by decide +kernel
theorem dX5_add_39 : decode cX5_add 39 = .ok (.getfield 18, 3) := by decide +kernel
theorem dX5_add_42 : decode cX5_add 42 = .ok (.iload 4, 2) := by decide +kernel
theorem dX5_add_44 : decode cX5_add 44 = .ok (.iload_n 1, 1) := by decide +kernel
theorem dX5_add_45 : decode cX5_add 45 = .ok (.iconst 2, 1) := by decide +kernel
theorem dX5_add_46 : decode cX5_add 46 = .ok (.if_icmp .ne 7, 3) := by decide +kernel
theorem dX5_add_49 : decode cX5_add 49 = .ok (.iload_n 3, 1) := by decide +kernel
theorem dX5_add_50 : decode cX5_add 50 = .ok (.goto 14, 3) := by decide +kernel
theorem dX5_add_53 : decode cX5_add 53 = .ok (.iload_n 1, 1) := by decide +kernel
theorem dX5_add_54 : decode cX5_add 54 = .ok (.iconst 1, 1) := by decide +kernel
theorem dX5_add_55 : decode cX5_add 55 = .ok (.if_icmp .ne 7, 3) := by decide +kernel
theorem dX5_add_58 : decode cX5_add 58 = .ok (.iload_n 2, 1) := by decide +kernel
theorem dX5_add_59 : decode cX5_add 59 = .ok (.goto 5, 3) := by decide +kernel
theorem dX5_add_62 : decode cX5_add 62 = .ok (.bipush 64, 2) := by decide +kernel
theorem dX5_add_64 : decode cX5_add 64 = .ok (.iastore, 1) := by decide +kernel
theorem dX5_add_65 : decode cX5_add 65 = .ok (.aload_n 0, 1) := by decide +kernel
theorem dX5_add_66 : decode cX5_add 66 = .ok (.getfield 21, 3) := by decide +kernel
theorem dX5_add_69 : decode cX5_add 69 = .ok (.iload 4, 2) := by decide +kernel
theorem dX5_add_71 : decode cX5_add 71 = .ok (.iload_n 1, 1) := by decide +kernel
theorem dX5_add_72 : decode cX5_add 72 = .ok (.iconst 3, 1) := by decide +kernel
theorem dX5_add_73 : decode cX5_add 73 = .ok (.if_icmp .ne 7, 3) := by decide +kernel
theorem dX5_add_76 : decode cX5_add 76 = .ok (.iload_n 2, 1) := by decide +kernel
theorem dX5_add_77 : decode cX5_add 77 = .ok (.goto 5, 3) := by decide +kernel
theorem dX5_add_80 : decode cX5_add 80 = .ok (.bipush (-3), 2) := by decide +kernel
theorem dX5_add_82 : decode cX5_add 82 = .ok (.iastore, 1) := by decide +kernel
theorem dX5_add_83 : decode cX5_add 83 = .ok (.aload_n 0, 1) := by decide +kernel
theorem dX5_add_84 : decode cX5_add 84 = .ok (.getfield 24, 3) := by decide +kernel
theorem dX5_add_87 : decode cX5_add 87 = .ok (.iload 4, 2) := by decide +kernel
theorem dX5_add_89 : decode cX5_add 89 = .ok (.iconst 0, 1) := by decide +kernel
theorem dX5_add_90 : decode cX5_add 90 = .ok (.iastore, 1) := by decide +kernel
theorem dX5_add_91 : decode cX5_add 91 = .ok (.aload_n 0, 1) := by decide +kernel
theorem dX5_add_92 : decode cX5_add 92 = .ok (.dup, 1) := by decide +kernel
theorem dX5_add_93 : decode cX5_add 93 = .ok (.getfield 27, 3) := by decide +kernel
theorem dX5_add_96 : decode cX5_add 96 = .ok (.iconst 1, 1) := by decide +kernel
theorem dX5_add_97 : decode cX5_add 97 = .ok (.iadd, 1) := by decide +kernel
theorem dX5_add_98 : decode cX5_add 98 = .ok (.putfield 27, 3) := by decide +kernel
theorem dX5_add_101 : decode cX5_add 101 = .ok (.iload 4, 2) := by decide +kernel
theorem dX5_add_103 : decode cX5_add 103 = .ok (.ireturn, 1) := by decide +kernel
theorem dX5_waitForMore_0 : decode cX5_waitForMore 0 = .ok (.iload_n 2, 1) := by decide +kernel
theorem dX5_waitForMore_1 : decode cX5_waitForMore 1 = .ok (.aload_n 0, 1) := by decide +kernel
theorem dX5_waitForMore_2 : decode cX5_waitForMore 2 = .ok (.getfield 24, 3) := by decide +kernel
theorem dX5_waitForMore_5 : decode cX5_waitForMore 5 = .ok (.iload_n 1, 1) := by decide +kernel
theorem dX5_waitForMore_6 : decode cX5_waitForMore 6 = .ok (.iaload, 1) := by decide +kernel
theorem dX5_waitForMore_7 : decode cX5_waitForMore 7 = .ok (.iconst (-1), 1) := by decide +kernel
theorem dX5_waitForMore_8 : decode cX5_waitForMore 8 = .ok (.ixor, 1) := by decide +kernel
theorem dX5_waitForMore_9 : decode cX5_waitForMore 9 = .ok (.iand, 1) := by decide +kernel
theorem dX5_waitForMore_10 : decode cX5_waitForMore 10 = .ok (.istore_n 3, 1) := by decide +kernel
theorem dX5_waitForMore_11 : decode cX5_waitForMore 11 = .ok (.iload_n 3, 1) := by decide +kernel
theorem dX5_waitForMore_12 : decode cX5_waitForMore 12 = .ok (.ifCond .eq 24, 3) := by decide +kernel
theorem dX5_waitForMore_15 : decode cX5_waitForMore 15 = .ok (.aload_n 0, 1) := by decide +kernel
theorem dX5_waitForMore_16 : decode cX5_waitForMore 16 = .ok (.iload_n 1, 1) := by decide +kernel
theorem dX5_waitForMore_17 : decode cX5_waitForMore 17 = .ok (.aload_n 0, 1) := by decide +kernel
theorem dX5_waitForMore_18 : decode cX5_waitForMore 18 = .ok (.getfield 24, 3) := by decide +kernel
theorem dX5_waitForMore_21 : decode cX5_waitForMore 21 = .ok (.iload_n 1, 1) := by decide +kernel
theorem dX5_waitForMore_22 : decode cX5_waitForMore 22 = .ok (.iaload, 1) := by decide +kernel
theorem dX5_waitForMore_23 : decode cX5_waitForMore 23 = .ok (.invokevirtual 53, 3) := by decide +kernel
theorem dX5_waitForMore_26 : decode cX5_waitForMore 26 = .ok (.aload_n 0, 1) := by decide +kernel
theorem dX5_waitForMore_27 : decode cX5_waitForMore 27 = .ok (.getfield 24, 3) := by decide +kernel
theorem dX5_waitForMore_30 : decode cX5_waitForMore 30 = .ok (.iload_n 1, 1) := by decide +kernel
theorem dX5_waitForMore_31 : decode cX5_waitForMore 31 = .ok (.dup2, 1) := by decide +kernel
theorem dX5_waitForMore_32 : decode cX5_waitForMore 32 = .ok (.iaload, 1) := by decide +kernel
theorem dX5_waitForMore_33 : decode cX5_waitForMore 33 = .ok (.iload_n 3, 1) := by decide +kernel
theorem dX5_waitForMore_34 : decode cX5_waitForMore 34 = .ok (.ior, 1) := by decide +kernel
theorem dX5_waitForMore_35 : decode cX5_waitForMore 35 = .ok (.iastore, 1) := by decide +kernel
theorem dX5_waitForMore_36 : decode cX5_waitForMore 36 = .ok (.iload_n 3, 1) := by decide +kernel
theorem dX5_waitForMore_37 : decode cX5_waitForMore 37 = .ok (.invokestatic 57, 3) := by decide +kernel
theorem dX5_waitForMore_40 : decode cX5_waitForMore 40 = .ok (.ireturn, 1) := by decide +kernel
theorem dX5_waitNoMore_0 : decode cX5_waitNoMore 0 = .ok (.aload_n 0, 1) := by decide +kernel
theorem dX5_waitNoMore_1 : decode cX5_waitNoMore 1 = .ok (.getfield 24, 3) := by decide +kernel
theorem dX5_waitNoMore_4 : decode cX5_waitNoMore 4 = .ok (.iload_n 1, 1) := by decide +kernel
theorem dX5_waitNoMore_5 : decode cX5_waitNoMore 5 = .ok (.iaload, 1) := by decide +kernel
theorem dX5_waitNoMore_6 : decode cX5_waitNoMore 6 = .ok (.iload_n 2, 1) := by decide +kernel
theorem dX5_waitNoMore_7 : decode cX5_waitNoMore 7 = .ok (.invokestatic 62, 3) := by decide +kernel
theorem dX5_waitNoMore_10 : decode cX5_waitNoMore 10 = .ok (.ifCond .ne 5, 3) := by decide +kernel
theorem dX5_waitNoMore_13 : decode cX5_waitNoMore 13 = .ok (.iconst 0, 1) := by decide +kernel
theorem dX5_waitNoMore_14 : decode cX5_waitNoMore 14 = .ok (.ireturn, 1) := by decide +kernel
theorem dX5_waitNoMore_15 : decode cX5_waitNoMore 15 = .ok (.aload_n 0, 1) := by decide +kernel
theorem dX5_waitNoMore_16 : decode cX5_waitNoMore 16 = .ok (.iload_n 1, 1) := by decide +kernel
theorem dX5_waitNoMore_17 : decode cX5_waitNoMore 17 = .ok (.aload_n 0, 1) := by decide +kernel
theorem dX5_waitNoMore_18 : decode cX5_waitNoMore 18 = .ok (.getfield 24, 3) := by decide +kernel
theorem dX5_waitNoMore_21 : decode cX5_waitNoMore 21 = .ok (.iload_n 1, 1) := by decide +kernel
theorem dX5_waitNoMore_22 : decode cX5_waitNoMore 22 = .ok (.iaload, 1) := by decide +kernel
theorem dX5_waitNoMore_23 : decode cX5_waitNoMore 23 = .ok (.invokevirtual 53, 3) := by decide +kernel
theorem dX5_waitNoMore_26 : decode cX5_waitNoMore 26 = .ok (.aload_n 0, 1) := by decide +kernel
theorem dX5_waitNoMore_27 : decode cX5_waitNoMore 27 = .ok (.getfield 24, 3) := by decide +kernel
theorem dX5_waitNoMore_30 : decode cX5_waitNoMore 30 = .ok (.iload_n 1, 1) := by decide +kernel
theorem dX5_waitNoMore_31 : decode cX5_waitNoMore 31 = .ok (.dup2, 1) := by decide +kernel
theorem dX5_waitNoMore_32 : decode cX5_waitNoMore 32 = .ok (.iaload, 1) := by decide +kernel
theorem dX5_waitNoMore_33 : decode cX5_waitNoMore 33 = .ok (.iload_n 2, 1) := by decide +kernel
theorem dX5_waitNoMore_34 : decode cX5_waitNoMore 34 = .ok (.invokestatic 49, 3) := by decide +kernel
theorem dX5_waitNoMore_37 : decode cX5_waitNoMore 37 = .ok (.iconst (-1), 1) := by decide +kernel
theorem dX5_waitNoMore_38 : decode cX5_waitNoMore 38 = .ok (.ixor, 1) := by decide +kernel
theorem dX5_waitNoMore_39 : decode cX5_waitNoMore 39 = .ok (.iand, 1) := by decide +kernel
theorem dX5_waitNoMore_40 : decode cX5_waitNoMore 40 = .ok (.iastore, 1) := by decide +kernel
theorem dX5_waitNoMore_41 : decode cX5_waitNoMore 41 = .ok (.iconst 1, 1) := by decide +kernel
theorem dX5_waitNoMore_42 : decode cX5_waitNoMore 42 = .ok (.ireturn, 1) := by decide +kernel
theorem dX5_takeBack_0 : decode cX5_takeBack 0 = .ok (.aload_n 0, 1) := by decide +kernel
theorem dX5_takeBack_1 : decode cX5_takeBack 1 = .ok (.getfield 31, 3) := by decide +kernel
theorem dX5_takeBack_4 : decode cX5_takeBack 4 = .ok (.ifCond .ne 5, 3) := by decide +kernel
theorem dX5_takeBack_7 : decode cX5_takeBack 7 = .ok (.iconst 0, 1) := by decide +kernel
theorem dX5_takeBack_8 : decode cX5_takeBack 8 = .ok (.ireturn, 1) := by decide +kernel
theorem dX5_takeBack_9 : decode cX5_takeBack 9 = .ok (.aload_n 0, 1) := by decide +kernel
theorem dX5_takeBack_10 : decode cX5_takeBack 10 = .ok (.dup, 1) := by decide +kernel
theorem dX5_takeBack_11 : decode cX5_takeBack 11 = .ok (.getfield 31, 3) := by decide +kernel
theorem dX5_takeBack_14 : decode cX5_takeBack 14 = .ok (.iconst 1, 1) := by decide +kernel
theorem dX5_takeBack_15 : decode cX5_takeBack 15 = .ok (.isub, 1) := by decide +kernel
theorem dX5_takeBack_16 : decode cX5_takeBack 16 = .ok (.putfield 31, 3) := by decide +kernel
theorem dX5_takeBack_19 : decode cX5_takeBack 19 = .ok (.aload_n 0, 1) := by decide +kernel
theorem dX5_takeBack_20 : decode cX5_takeBack 20 = .ok (.dup, 1) := by decide +kernel
theorem dX5_takeBack_21 : decode cX5_takeBack 21 = .ok (.getfield 34, 3) := by decide +kernel
theorem dX5_takeBack_24 : decode cX5_takeBack 24 = .ok (.iconst 1, 1) := by decide +kernel
theorem dX5_takeBack_25 : decode cX5_takeBack 25 = .ok (.iadd, 1) := by decide +kernel
theorem dX5_takeBack_26 : decode cX5_takeBack 26 = .ok (.putfield 34, 3) := by decide +kernel
theorem dX5_takeBack_29 : decode cX5_takeBack 29 = .ok (.aload_n 0, 1) := by decide +kernel
theorem dX5_takeBack_30 : decode cX5_takeBack 30 = .ok (.getfield 37, 3) := by decide +kernel
theorem dX5_takeBack_33 : decode cX5_takeBack 33 = .ok (.aload_n 0, 1) := by decide +kernel
theorem dX5_takeBack_34 : decode cX5_takeBack 34 = .ok (.getfield 31, 3) := by decide +kernel
theorem dX5_takeBack_37 : decode cX5_takeBack 37 = .ok (.iaload, 1) := by decide +kernel
theorem dX5_takeBack_38 : decode cX5_takeBack 38 = .ok (.istore_n 1, 1) := by decide +kernel
theorem dX5_takeBack_39 : decode cX5_takeBack 39 = .ok (.iload_n 1, 1) := by decide +kernel
theorem dX5_takeBack_40 : decode cX5_takeBack 40 = .ok (.bipush 10, 2) := by decide +kernel
theorem dX5_takeBack_42 : decode cX5_takeBack 42 = .ok (.if_icmp .ne 16, 3) := by decide +kernel
theorem dX5_takeBack_45 : decode cX5_takeBack 45 = .ok (.aload_n 0, 1) := by decide +kernel
theorem dX5_takeBack_46 : decode cX5_takeBack 46 = .ok (.dup, 1) := by decide +kernel
theorem dX5_takeBack_47 : decode cX5_takeBack 47 = .ok (.getfield 27, 3) := by decide +kernel
theorem dX5_takeBack_50 : decode cX5_takeBack 50 = .ok (.iconst 1, 1) := by decide +kernel
theorem dX5_takeBack_51 : decode cX5_takeBack 51 = .ok (.isub, 1) := by decide +kernel
theorem dX5_takeBack_52 : decode cX5_takeBack 52 = .ok (.putfield 27, 3) := by decide +kernel
theorem dX5_takeBack_55 : decode cX5_takeBack 55 = .ok (.goto 18, 3) := by decide +kernel
theorem dX5_takeBack_58 : decode cX5_takeBack 58 = .ok (.aload_n 0, 1) := by decide +kernel
theorem dX5_takeBack_59 : decode cX5_takeBack 59 = .ok (.getfield 24, 3) := by decide +kernel
theorem dX5_takeBack_62 : decode cX5_takeBack 62 = .ok (.iload_n 1, 1) := by decide +kernel
theorem dX5_takeBack_63 : decode cX5_takeBack 63 = .ok (.aload_n 0, 1) := by decide +kernel
theorem dX5_takeBack_64 : decode cX5_takeBack 64 = .ok (.getfield 40, 3) := by decide +kernel
theorem dX5_takeBack_67 : decode cX5_takeBack 67 = .ok (.aload_n 0, 1) := by decide +kernel
theorem dX5_takeBack_68 : decode cX5_takeBack 68 = .ok (.getfield 31, 3) := by decide +kernel
theorem dX5_takeBack_71 : decode cX5_takeBack 71 = .ok (.iaload, 1) := by decide +kernel
theorem dX5_takeBack_72 : decode cX5_takeBack 72 = .ok (.iastore, 1) := by decide +kernel
theorem dX5_takeBack_73 : decode cX5_takeBack 73 = .ok (.iconst 1, 1) := by decide +kernel
theorem dX5_takeBack_74 : decode cX5_takeBack 74 = .ok (.ireturn, 1) := by decide +kernel
theorem dX5_note_0 : decode cX5_note 0 = .ok (.aload_n 0, 1) := by decide +kernel
theorem dX5_note_1 : decode cX5_note 1 = .ok (.getfield 31, 3) := by decide +kernel
theorem dX5_note_4 : decode cX5_note 4 = .ok (.bipush 20, 2) := by decide +kernel
theorem dX5_note_6 : decode cX5_note 6 = .ok (.if_icmp .ne 47, 3) := by decide +kernel
theorem dX5_note_9 : decode cX5_note 9 = .ok (.aload_n 0, 1) := by decide +kernel
theorem dX5_note_10 : decode cX5_note 10 = .ok (.dup, 1) := by decide +kernel
theorem dX5_note_11 : decode cX5_note 11 = .ok (.getfield 31, 3) := by decide +kernel
theorem dX5_note_14 : decode cX5_note 14 = .ok (.iconst 1, 1) := by decide +kernel
theorem dX5_note_15 : decode cX5_note 15 = .ok (.isub, 1) := by decide +kernel
theorem dX5_note_16 : decode cX5_note 16 = .ok (.putfield 31, 3) := by decide +kernel
theorem dX5_note_19 : decode cX5_note 19 = .ok (.aload_n 0, 1) := by decide +kernel
theorem dX5_note_20 : decode cX5_note 20 = .ok (.getfield 37, 3) := by decide +kernel
theorem dX5_note_23 : decode cX5_note 23 = .ok (.iconst 1, 1) := by decide +kernel
theorem dX5_note_24 : decode cX5_note 24 = .ok (.aload_n 0, 1) := by decide +kernel
theorem dX5_note_25 : decode cX5_note 25 = .ok (.getfield 37, 3) := by decide +kernel
theorem dX5_note_28 : decode cX5_note 28 = .ok (.iconst 0, 1) := by decide +kernel
theorem dX5_note_29 : decode cX5_note 29 = .ok (.aload_n 0, 1) := by decide +kernel
theorem dX5_note_30 : decode cX5_note 30 = .ok (.getfield 31, 3) := by decide +kernel
theorem dX5_note_33 : decode cX5_note 33 = .ok (.invokestatic 66, 3) := by decide +kernel
theorem dX5_note_36 : decode cX5_note 36 = .ok (.aload_n 0, 1) := by decide +kernel
theorem dX5_note_37 : decode cX5_note 37 = .ok (.getfield 40, 3) := by decide +kernel
theorem dX5_note_40 : decode cX5_note 40 = .ok (.iconst 1, 1) := by decide +kernel
theorem dX5_note_41 : decode cX5_note 41 = .ok (.aload_n 0, 1) := by decide +kernel
theorem dX5_note_42 : decode cX5_note 42 = .ok (.getfield 40, 3) := by decide +kernel
theorem dX5_note_45 : decode cX5_note 45 = .ok (.iconst 0, 1) := by decide +kernel
theorem dX5_note_46 : decode cX5_note 46 = .ok (.aload_n 0, 1) := by decide +kernel
theorem dX5_note_47 : decode cX5_note 47 = .ok (.getfield 31, 3) := by decide +kernel
theorem dX5_note_50 : decode cX5_note 50 = .ok (.invokestatic 66, 3) := by decide +kernel
theorem dX5_note_53 : decode cX5_note 53 = .ok (.aload_n 0, 1) := by decide +kernel
theorem dX5_note_54 : decode cX5_note 54 = .ok (.getfield 37, 3) := by decide +kernel
theorem dX5_note_57 : decode cX5_note 57 = .ok (.aload_n 0, 1) := by decide +kernel
theorem dX5_note_58 : decode cX5_note 58 = .ok (.getfield 31, 3) := by decide +kernel
theorem dX5_note_61 : decode cX5_note 61 = .ok (.iload_n 1, 1) := by decide +kernel
theorem dX5_note_62 : decode cX5_note 62 = .ok (.iastore, 1) := by decide +kernel
theorem dX5_note_63 : decode cX5_note 63 = .ok (.aload_n 0, 1) := by decide +kernel
theorem dX5_note_64 : decode cX5_note 64 = .ok (.getfield 40, 3) := by decide +kernel
theorem dX5_note_67 : decode cX5_note 67 = .ok (.aload_n 0, 1) := by decide +kernel
theorem dX5_note_68 : decode cX5_note 68 = .ok (.getfield 31, 3) := by decide +kernel
theorem dX5_note_71 : decode cX5_note 71 = .ok (.iload_n 2, 1) := by decide +kernel
theorem dX5_note_72 : decode cX5_note 72 = .ok (.iastore, 1) := by decide +kernel
theorem dX5_note_73 : decode cX5_note 73 = .ok (.aload_n 0, 1) := by decide +kernel
theorem dX5_note_74 : decode cX5_note 74 = .ok (.dup, 1) := by decide +kernel
theorem dX5_note_75 : decode cX5_note 75 = .ok (.getfield 31, 3) := by decide +kernel
theorem dX5_note_78 : decode cX5_note 78 = .ok (.iconst 1, 1) := by decide +kernel
theorem dX5_note_79 : decode cX5_note 79 = .ok (.iadd, 1) := by decide +kernel
theorem dX5_note_80 : decode cX5_note 80 = .ok (.putfield 31, 3) := by decide +kernel
theorem dX5_note_83 : decode cX5_note 83 = .ok (.aload_n 0, 1) := by decide +kernel
theorem dX5_note_84 : decode cX5_note 84 = .ok (.dup, 1) := by decide +kernel
theorem dX5_note_85 : decode cX5_note 85 = .ok (.getfield 34, 3) := by decide +kernel
theorem dX5_note_88 : decode cX5_note 88 = .ok (.iconst 1, 1) := by decide +kernel
theorem dX5_note_89 : decode cX5_note 89 = .ok (.iadd, 1) := by decide +kernel
theorem dX5_note_90 : decode cX5_note 90 = .ok (.putfield 34, 3) := by decide +kernel
theorem dX5_note_93 : decode cX5_note 93 = .ok (.return_, 1) := by decide +kernel
theorem dX5_beginOf_0 : decode cX5_beginOf 0 = .ok (.aload_n 0, 1) := by decide +kernel
theorem dX5_beginOf_1 : decode cX5_beginOf 1 = .ok (.getfield 9, 3) := by decide +kernel
theorem dX5_beginOf_4 : decode cX5_beginOf 4 = .ok (.iload_n 1, 1) := by decide +kernel
theorem dX5_beginOf_5 : decode cX5_beginOf 5 = .ok (.iaload, 1) := by decide +kernel
theorem dX5_beginOf_6 : decode cX5_beginOf 6 = .ok (.iconst 2, 1) := by decide +kernel
theorem dX5_beginOf_7 : decode cX5_beginOf 7 = .ok (.if_icmp .ne 12, 3) := by decide +kernel
theorem dX5_beginOf_10 : decode cX5_beginOf 10 = .ok (.aload_n 0, 1) := by decide +kernel
theorem dX5_beginOf_11 : decode cX5_beginOf 11 = .ok (.getfield 15, 3) := by decide +kernel
theorem dX5_beginOf_14 : decode cX5_beginOf 14 = .ok (.iload_n 1, 1) := by decide +kernel
theorem dX5_beginOf_15 : decode cX5_beginOf 15 = .ok (.iaload, 1) := by decide +kernel
theorem dX5_beginOf_16 : decode cX5_beginOf 16 = .ok (.goto 5, 3) := by decide +kernel
theorem dX5_beginOf_19 : decode cX5_beginOf 19 = .ok (.bipush (-3), 2) := by decide +kernel
theorem dX5_beginOf_21 : decode cX5_beginOf 21 = .ok (.ireturn, 1) := by decide +kernel
theorem dX5_endOf_0 : decode cX5_endOf 0 = .ok (.aload_n 0, 1) := by decide +kernel
theorem dX5_endOf_1 : decode cX5_endOf 1 = .ok (.getfield 18, 3) := by decide +kernel
theorem dX5_endOf_4 : decode cX5_endOf 4 = .ok (.iload_n 1, 1) := by decide +kernel
theorem dX5_endOf_5 : decode cX5_endOf 5 = .ok (.iaload, 1) := by decide +kernel
theorem dX5_endOf_6 : decode cX5_endOf 6 = .ok (.bipush 64, 2) := by decide +kernel
theorem dX5_endOf_8 : decode cX5_endOf 8 = .ok (.if_icmp .ne 8, 3) := by decide +kernel
theorem dX5_endOf_11 : decode cX5_endOf 11 = .ok (.bipush (-3), 2) := by decide +kernel
theorem dX5_endOf_13 : decode cX5_endOf 13 = .ok (.goto 9, 3) := by decide +kernel
theorem dX5_endOf_16 : decode cX5_endOf 16 = .ok (.aload_n 0, 1) := by decide +kernel
theorem dX5_endOf_17 : decode cX5_endOf 17 = .ok (.getfield 18, 3) := by decide +kernel
theorem dX5_endOf_20 : decode cX5_endOf 20 = .ok (.iload_n 1, 1) := by decide +kernel
theorem dX5_endOf_21 : decode cX5_endOf 21 = .ok (.iaload, 1) := by decide +kernel
theorem dX5_endOf_22 : decode cX5_endOf 22 = .ok (.ireturn, 1) := by decide +kernel
theorem dX5_ownedAlike_0 : decode cX5_ownedAlike 0 = .ok (.aload_n 0, 1) := by decide +kernel
theorem dX5_ownedAlike_1 : decode cX5_ownedAlike 1 = .ok (.getfield 21, 3) := by decide +kernel
theorem dX5_ownedAlike_4 : decode cX5_ownedAlike 4 = .ok (.iload_n 1, 1) := by decide +kernel
theorem dX5_ownedAlike_5 : decode cX5_ownedAlike 5 = .ok (.iaload, 1) := by decide +kernel
theorem dX5_ownedAlike_6 : decode cX5_ownedAlike 6 = .ok (.bipush (-3), 2) := by decide +kernel
theorem dX5_ownedAlike_8 : decode cX5_ownedAlike 8 = .ok (.if_icmp .eq 22, 3) := by decide +kernel
theorem dX5_ownedAlike_11 : decode cX5_ownedAlike 11 = .ok (.aload_n 0, 1) := by decide +kernel
theorem dX5_ownedAlike_12 : decode cX5_ownedAlike 12 = .ok (.getfield 21, 3) := by decide +kernel
theorem dX5_ownedAlike_15 : decode cX5_ownedAlike 15 = .ok (.iload_n 1, 1) := by decide +kernel
theorem dX5_ownedAlike_16 : decode cX5_ownedAlike 16 = .ok (.iaload, 1) := by decide +kernel
theorem dX5_ownedAlike_17 : decode cX5_ownedAlike 17 = .ok (.aload_n 0, 1) := by decide +kernel
theorem dX5_ownedAlike_18 : decode cX5_ownedAlike 18 = .ok (.getfield 21, 3) := by decide +kernel
theorem dX5_ownedAlike_21 : decode cX5_ownedAlike 21 = .ok (.iload_n 2, 1) := by decide +kernel
theorem dX5_ownedAlike_22 : decode cX5_ownedAlike 22 = .ok (.iaload, 1) := by decide +kernel
theorem dX5_ownedAlike_23 : decode cX5_ownedAlike 23 = .ok (.if_icmp .ne 7, 3) := by decide +kernel
theorem dX5_ownedAlike_26 : decode cX5_ownedAlike 26 = .ok (.iconst 1, 1) := by decide +kernel
theorem dX5_ownedAlike_27 : decode cX5_ownedAlike 27 = .ok (.goto 4, 3) := by decide +kernel
theorem dX5_ownedAlike_30 : decode cX5_ownedAlike 30 = .ok (.iconst 0, 1) := by decide +kernel
theorem dX5_ownedAlike_31 : decode cX5_ownedAlike 31 = .ok (.ireturn, 1) := by decide +kernel
theorem dX5_areTwins_0 : decode cX5_areTwins 0 = .ok (.aload_n 0, 1) := by decide +kernel
theorem dX5_areTwins_1 : decode cX5_areTwins 1 = .ok (.getfield 15, 3) := by decide +kernel
theorem dX5_areTwins_4 : decode cX5_areTwins 4 = .ok (.iload_n 1, 1) := by decide +kernel
theorem dX5_areTwins_5 : decode cX5_areTwins 5 = .ok (.iaload, 1) := by decide +kernel
theorem dX5_areTwins_6 : decode cX5_areTwins 6 = .ok (.aload_n 0, 1) := by decide +kernel
theorem dX5_areTwins_7 : decode cX5_areTwins 7 = .ok (.getfield 15, 3) := by decide +kernel
theorem dX5_areTwins_10 : decode cX5_areTwins 10 = .ok (.iload_n 2, 1) := by decide +kernel
theorem dX5_areTwins_11 : decode cX5_areTwins 11 = .ok (.iaload, 1) := by decide +kernel
theorem dX5_areTwins_12 : decode cX5_areTwins 12 = .ok (.if_icmp .ne 37, 3) := by decide +kernel
theorem dX5_areTwins_15 : decode cX5_areTwins 15 = .ok (.aload_n 0, 1) := by decide +kernel
theorem dX5_areTwins_16 : decode cX5_areTwins 16 = .ok (.getfield 18, 3) := by decide +kernel
theorem dX5_areTwins_19 : decode cX5_areTwins 19 = .ok (.iload_n 1, 1) := by decide +kernel
theorem dX5_areTwins_20 : decode cX5_areTwins 20 = .ok (.iaload, 1) := by decide +kernel
theorem dX5_areTwins_21 : decode cX5_areTwins 21 = .ok (.aload_n 0, 1) := by decide +kernel
theorem dX5_areTwins_22 : decode cX5_areTwins 22 = .ok (.getfield 18, 3) := by decide +kernel
theorem dX5_areTwins_25 : decode cX5_areTwins 25 = .ok (.iload_n 2, 1) := by decide +kernel
theorem dX5_areTwins_26 : decode cX5_areTwins 26 = .ok (.iaload, 1) := by decide +kernel
theorem dX5_areTwins_27 : decode cX5_areTwins 27 = .ok (.if_icmp .ne 22, 3) := by decide +kernel
theorem dX5_areTwins_30 : decode cX5_areTwins 30 = .ok (.aload_n 0, 1) := by decide +kernel
theorem dX5_areTwins_31 : decode cX5_areTwins 31 = .ok (.getfield 21, 3) := by decide +kernel
theorem dX5_areTwins_34 : decode cX5_areTwins 34 = .ok (.iload_n 1, 1) := by decide +kernel
theorem dX5_areTwins_35 : decode cX5_areTwins 35 = .ok (.iaload, 1) := by decide +kernel
theorem dX5_areTwins_36 : decode cX5_areTwins 36 = .ok (.aload_n 0, 1) := by decide +kernel
theorem dX5_areTwins_37 : decode cX5_areTwins 37 = .ok (.getfield 21, 3) := by decide +kernel
theorem dX5_areTwins_40 : decode cX5_areTwins 40 = .ok (.iload_n 2, 1) := by decide +kernel
theorem dX5_areTwins_41 : decode cX5_areTwins 41 = .ok (.iaload, 1) := by decide +kernel
theorem dX5_areTwins_42 : decode cX5_areTwins 42 = .ok (.if_icmp .ne 7, 3) := by decide +kernel
theorem dX5_areTwins_45 : decode cX5_areTwins 45 = .ok (.iconst 1, 1) := by decide +kernel
theorem dX5_areTwins_46 : decode cX5_areTwins 46 = .ok (.goto 4, 3) := by decide +kernel
theorem dX5_areTwins_49 : decode cX5_areTwins 49 = .ok (.iconst 0, 1) := by decide +kernel
theorem dX5_areTwins_50 : decode cX5_areTwins 50 = .ok (.ireturn, 1) := by decide +kernel
theorem dX5_countWaits_0 : decode cX5_countWaits 0 = .ok (.iconst 0, 1) := by decide +kernel
theorem dX5_countWaits_1 : decode cX5_countWaits 1 = .ok (.istore_n 1, 1) := by decide +kernel
theorem dX5_countWaits_2 : decode cX5_countWaits 2 = .ok (.iconst 0, 1) := by decide +kernel
theorem dX5_countWaits_3 : decode cX5_countWaits 3 = .ok (.istore_n 2, 1) := by decide +kernel
theorem dX5_countWaits_4 : decode cX5_countWaits 4 = .ok (.iload_n 2, 1) := by decide +kernel
theorem dX5_countWaits_5 : decode cX5_countWaits 5 = .ok (.aload_n 0, 1) := by decide +kernel
theorem dX5_countWaits_6 : decode cX5_countWaits 6 = .ok (.getfield 27, 3) := by decide +kernel
theorem dX5_countWaits_9 : decode cX5_countWaits 9 = .ok (.if_icmp .ge 21, 3) := by decide +kernel
theorem dX5_countWaits_12 : decode cX5_countWaits 12 = .ok (.iload_n 1, 1) := by decide +kernel
theorem dX5_countWaits_13 : decode cX5_countWaits 13 = .ok (.aload_n 0, 1) := by decide +kernel
theorem dX5_countWaits_14 : decode cX5_countWaits 14 = .ok (.getfield 24, 3) := by decide +kernel
theorem dX5_countWaits_17 : decode cX5_countWaits 17 = .ok (.iload_n 2, 1) := by decide +kernel
theorem dX5_countWaits_18 : decode cX5_countWaits 18 = .ok (.iaload, 1) := by decide +kernel
theorem dX5_countWaits_19 : decode cX5_countWaits 19 = .ok (.invokestatic 57, 3) := by decide +kernel
theorem dX5_countWaits_22 : decode cX5_countWaits 22 = .ok (.iadd, 1) := by decide +kernel
theorem dX5_countWaits_23 : decode cX5_countWaits 23 = .ok (.istore_n 1, 1) := by decide +kernel
theorem dX5_countWaits_24 : decode cX5_countWaits 24 = .ok (.iinc 2 1, 3) := by decide +kernel
theorem dX5_countWaits_27 : decode cX5_countWaits 27 = .ok (.goto (-23), 3) := by decide +kernel
theorem dX5_countWaits_30 : decode cX5_countWaits 30 = .ok (.iload_n 1, 1) := by decide +kernel
theorem dX5_countWaits_31 : decode cX5_countWaits 31 = .ok (.ireturn, 1) := by decide +kernel
theorem dX6_init_0 : decode cX6_init 0 = .ok (.aload_n 0, 1) := by decide +kernel
theorem dX6_init_1 : decode cX6_init 1 = .ok (.invokespecial 3, 3) := by decide +kernel
theorem dX6_init_4 : decode cX6_init 4 = .ok (.aload_n 0, 1) := by decide +kernel
theorem dX6_init_5 : decode cX6_init 5 = .ok (.bipush 6, 2) := by decide +kernel
theorem dX6_init_7 : decode cX6_init 7 = .ok (.anewarray 9, 3) := by decide +kernel
theorem dX6_init_10 : decode cX6_init 10 = .ok (.putfield 11, 3) := by decide +kernel
theorem dX6_init_13 : decode cX6_init 13 = .ok (.aload_n 0, 1) := by decide +kernel
theorem dX6_init_14 : decode cX6_init 14 = .ok (.new 15, 3) := by decide +kernel
theorem dX6_init_17 : decode cX6_init 17 = .ok (.dup, 1) := by decide +kernel
theorem dX6_init_18 : decode cX6_init 18 = .ok (.invokespecial 17, 3) := by decide +kernel
theorem dX6_init_21 : decode cX6_init 21 = .ok (.putfield 18, 3) := by decide +kernel
theorem dX6_init_24 : decode cX6_init 24 = .ok (.aload_n 0, 1) := by decide +kernel
theorem dX6_init_25 : decode cX6_init 25 = .ok (.new 22, 3) := by decide +kernel
theorem dX6_init_28 : decode cX6_init 28 = .ok (.dup, 1) := by decide +kernel
theorem dX6_init_29 : decode cX6_init 29 = .ok (.aload_n 0, 1) := by decide +kernel
theorem dX6_init_30 : decode cX6_init 30 = .ok (.getfield 18, 3) := by decide +kernel
theorem dX6_init_33 : decode cX6_init 33 = .ok (.invokespecial 24, 3) := by decide +kernel
theorem dX6_init_36 : decode cX6_init 36 = .ok (.putfield 27, 3) := by decide +kernel
theorem dX6_init_39 : decode cX6_init 39 = .ok (.aload_n 0, 1) := by decide +kernel
theorem dX6_init_40 : decode cX6_init 40 = .ok (.new 31, 3) := by decide +kernel
theorem dX6_init_43 : decode cX6_init 43 = .ok (.dup, 1) := by decide +kernel
theorem dX6_init_44 : decode cX6_init 44 = .ok (.aload_n 0, 1) := by decide +kernel
theorem dX6_init_45 : decode cX6_init 45 = .ok (.getfield 18, 3) := by decide +kernel
theorem dX6_init_48 : decode cX6_init 48 = .ok (.aload_n 0, 1) := by decide +kernel
theorem dX6_init_49 : decode cX6_init 49 = .ok (.getfield 27, 3) := by decide +kernel
theorem dX6_init_52 : decode cX6_init 52 = .ok (.invokespecial 33, 3) := by decide +kernel
theorem dX6_init_55 : decode cX6_init 55 = .ok (.putfield 36, 3) := by decide +kernel
theorem dX6_init_58 : decode cX6_init 58 = .ok (.aload_n 0, 1) := by decide +kernel
theorem dX6_init_59 : decode cX6_init 59 = .ok (.new 40, 3) := by decide +kernel
theorem dX6_init_62 : decode cX6_init 62 = .ok (.dup, 1) := by decide +kernel
theorem dX6_init_63 : decode cX6_init 63 = .ok (.aload_n 0, 1) := by decide +kernel
theorem dX6_init_64 : decode cX6_init 64 = .ok (.getfield 18, 3) := by decide +kernel
theorem dX6_init_67 : decode cX6_init 67 = .ok (.aload_n 0, 1) := by decide +kernel
theorem dX6_init_68 : decode cX6_init 68 = .ok (.getfield 27, 3) := by decide +kernel
theorem dX6_init_71 : decode cX6_init 71 = .ok (.invokespecial 42, 3) := by decide +kernel
theorem dX6_init_74 : decode cX6_init 74 = .ok (.putfield 43, 3) := by decide +kernel
theorem dX6_init_77 : decode cX6_init 77 = .ok (.aload_n 0, 1) := by decide +kernel
theorem dX6_init_78 : decode cX6_init 78 = .ok (.new 47, 3) := by decide +kernel
theorem dX6_init_81 : decode cX6_init 81 = .ok (.dup, 1) := by decide +kernel
theorem dX6_init_82 : decode cX6_init 82 = .ok (.aload_n 0, 1) := by decide +kernel
theorem dX6_init_83 : decode cX6_init 83 = .ok (.getfield 18, 3) := by decide +kernel
theorem dX6_init_86 : decode cX6_init 86 = .ok (.invokespecial 49, 3) := by decide +kernel
theorem dX6_init_89 : decode cX6_init 89 = .ok (.putfield 50, 3) := by decide +kernel
theorem dX6_init_92 : decode cX6_init 92 = .ok (.iconst 0, 1) := by decide +kernel
theorem dX6_init_93 : decode cX6_init 93 = .ok (.istore_n 1, 1) := by decide +kernel
theorem dX6_init_94 : decode cX6_init 94 = .ok (.iload_n 1, 1) := by decide +kernel
theorem dX6_init_95 : decode cX6_init 95 = .ok (.bipush 6, 2) := by decide +kernel
theorem dX6_init_97 : decode cX6_init 97 = .ok (.if_icmp .ge 22, 3) := by decide +kernel
theorem dX6_init_100 : decode cX6_init 100 = .ok (.aload_n 0, 1) := by decide +kernel
theorem dX6_init_101 : decode cX6_init 101 = .ok (.getfield 11, 3) := by decide +kernel
theorem dX6_init_104 : decode cX6_init 104 = .ok (.iload_n 1, 1) := by decide +kernel
theorem dX6_init_105 : decode cX6_init 105 = .ok (.new 9, 3) := by decide +kernel
theorem dX6_init_108 : decode cX6_init 108 = .ok (.dup, 1) := by decide +kernel
theorem dX6_init_109 : decode cX6_init 109 = .ok (.invokespecial 54, 3) := by decide +kernel
theorem dX6_init_112 : decode cX6_init 112 = .ok (.aastore, 1) := by decide +kernel
theorem dX6_init_113 : decode cX6_init 113 = .ok (.iinc 1 1, 3) := by decide +kernel
theorem dX6_init_116 : decode cX6_init 116 = .ok (.goto (-22), 3) := by decide +kernel
theorem dX6_init_119 : decode cX6_init 119 = .ok (.return_, 1) := by decide +kernel
theorem dX6_sheet_0 : decode cX6_sheet 0 = .ok (.iload_n 1, 1) := by decide +kernel
theorem dX6_sheet_1 : decode cX6_sheet 1 = .ok (.invokestatic 55, 3) := by decide +kernel
theorem dX6_sheet_4 : decode cX6_sheet 4 = .ok (.ifCond .eq 13, 3) := by decide +kernel
theorem dX6_sheet_7 : decode cX6_sheet 7 = .ok (.iload_n 2, 1) := by decide +kernel
theorem dX6_sheet_8 : decode cX6_sheet 8 = .ok (.iconst (-1), 1) := by decide +kernel
theorem dX6_sheet_9 : decode cX6_sheet 9 = .ok (.if_icmp .lt 8, 3) := by decide +kernel
theorem dX6_sheet_12 : decode cX6_sheet 12 = .ok (.iload_n 2, 1) := by decide +kernel
theorem dX6_sheet_13 : decode cX6_sheet 13 = .ok (.iconst 2, 1) := by decide +kernel
theorem dX6_sheet_14 : decode cX6_sheet 14 = .ok (.if_icmp .le 5, 3) := by decide +kernel
theorem dX6_sheet_17 : decode cX6_sheet 17 = .ok (.iconst (-1), 1) := by decide +kernel
theorem dX6_sheet_18 : decode cX6_sheet 18 = .ok (.ireturn, 1) := by decide +kernel
theorem dX6_sheet_19 : decode cX6_sheet 19 = .ok (.iload_n 2, 1) := by decide +kernel
theorem dX6_sheet_20 : decode cX6_sheet 20 = .ok (.iconst (-1), 1) := by decide +kernel
theorem dX6_sheet_21 : decode cX6_sheet 21 = .ok (.if_icmp .ne 16, 3) := by decide +kernel
theorem dX6_sheet_24 : decode cX6_sheet 24 = .ok (.aload_n 0, 1) := by decide +kernel
theorem dX6_sheet_25 : decode cX6_sheet 25 = .ok (.getfield 11, 3) := by decide +kernel
theorem dX6_sheet_28 : decode cX6_sheet 28 = .ok (.iload_n 1, 1) := by decide +kernel
theorem dX6_sheet_29 : decode cX6_sheet 29 = .ok (.aaload, 1) := by decide +kernel
theorem dX6_sheet_30 : decode cX6_sheet 30 = .ok (.iconst (-1), 1) := by decide +kernel
theorem dX6_sheet_31 : decode cX6_sheet 31 = .ok (.iconst 0, 1) := by decide +kernel
theorem dX6_sheet_32 : decode cX6_sheet 32 = .ok (.invokevirtual 59, 3) := by decide +kernel
theorem dX6_sheet_35 : decode cX6_sheet 35 = .ok (.iconst 0, 1) := by decide +kernel
theorem dX6_sheet_36 : decode cX6_sheet 36 = .ok (.ireturn, 1) := by decide +kernel
theorem dX6_sheet_37 : decode cX6_sheet 37 = .ok (.iload_n 3, 1) := by decide +kernel
theorem dX6_sheet_38 : decode cX6_sheet 38 = .ok (.bipush 16, 2) := by decide +kernel
theorem dX6_sheet_40 : decode cX6_sheet 40 = .ok (.if_icmp .le 5, 3) := by decide +kernel
theorem dX6_sheet_43 : decode cX6_sheet 43 = .ok (.iconst (-1), 1) := by decide +kernel
theorem dX6_sheet_44 : decode cX6_sheet 44 = .ok (.ireturn, 1) := by decide +kernel
theorem dX6_sheet_45 : decode cX6_sheet 45 = .ok (.iload_n 3, 1) := by decide +kernel
theorem dX6_sheet_46 : decode cX6_sheet 46 = .ok (.ifCond .ge 6, 3) := by decide +kernel
theorem dX6_sheet_49 : decode cX6_sheet 49 = .ok (.bipush (-13), 2) := by decide +kernel
theorem dX6_sheet_51 : decode cX6_sheet 51 = .ok (.ireturn, 1) := by decide +kernel
theorem dX6_sheet_52 : decode cX6_sheet 52 = .ok (.aload_n 0, 1) := by decide +kernel
theorem dX6_sheet_53 : decode cX6_sheet 53 = .ok (.getfield 11, 3) := by decide +kernel
theorem dX6_sheet_56 : decode cX6_sheet 56 = .ok (.iload_n 1, 1) := by decide +kernel
theorem dX6_sheet_57 : decode cX6_sheet 57 = .ok (.aaload, 1) := by decide +kernel
theorem dX6_sheet_58 : decode cX6_sheet 58 = .ok (.iload_n 2, 1) := by decide +kernel
theorem dX6_sheet_59 : decode cX6_sheet 59 = .ok (.iload_n 3, 1) := by decide +kernel
theorem dX6_sheet_60 : decode cX6_sheet 60 = .ok (.invokevirtual 59, 3) := by decide +kernel
theorem dX6_sheet_63 : decode cX6_sheet 63 = .ok (.iconst 0, 1) := by decide +kernel
theorem dX6_sheet_64 : decode cX6_sheet 64 = .ok (.ireturn, 1) := by decide +kernel
theorem dX6_put_0 : decode cX6_put 0 = .ok (.iload_n 1, 1) := by decide +kernel
theorem dX6_put_1 : decode cX6_put 1 = .ok (.invokestatic 55, 3) := by decide +kernel
theorem dX6_put_4 : decode cX6_put 4 = .ok (.ifCond .ne 5, 3) := by decide +kernel
theorem dX6_put_7 : decode cX6_put 7 = .ok (.iconst (-1), 1) := by decide +kernel
theorem dX6_put_8 : decode cX6_put 8 = .ok (.ireturn, 1) := by decide +kernel
theorem dX6_put_9 : decode cX6_put 9 = .ok (.aload_n 0, 1) := by decide +kernel
theorem dX6_put_10 : decode cX6_put 10 = .ok (.getfield 11, 3) := by decide +kernel
theorem dX6_put_13 : decode cX6_put 13 = .ok (.iload_n 1, 1) := by decide +kernel
theorem dX6_put_14 : decode cX6_put 14 = .ok (.aaload, 1) := by decide +kernel
theorem dX6_put_15 : decode cX6_put 15 = .ok (.astore 4, 2) := by decide +kernel
theorem dX6_put_17 : decode cX6_put 17 = .ok (.aload 4, 2) := by decide +kernel
theorem dX6_put_19 : decode cX6_put 19 = .ok (.invokevirtual 63, 3) := by decide +kernel
theorem dX6_put_22 : decode cX6_put 22 = .ok (.ifCond .eq 6, 3) := by decide +kernel
theorem dX6_put_25 : decode cX6_put 25 = .ok (.bipush (-11), 2) := by decide +kernel
theorem dX6_put_27 : decode cX6_put 27 = .ok (.ireturn, 1) := by decide +kernel
theorem dX6_put_28 : decode cX6_put 28 = .ok (.aload 4, 2) := by decide +kernel
theorem dX6_put_30 : decode cX6_put 30 = .ok (.iload_n 2, 1) := by decide +kernel
theorem dX6_put_31 : decode cX6_put 31 = .ok (.iconst 1, 1) := by decide +kernel
theorem dX6_put_32 : decode cX6_put 32 = .ok (.invokevirtual 67, 3) := by decide +kernel
theorem dX6_put_35 : decode cX6_put 35 = .ok (.ifCond .ne 6, 3) := by decide +kernel
theorem dX6_put_38 : decode cX6_put 38 = .ok (.bipush (-12), 2) := by decide +kernel
theorem dX6_put_40 : decode cX6_put 40 = .ok (.ireturn, 1) := by decide +kernel
theorem dX6_put_41 : decode cX6_put 41 = .ok (.aload 4, 2) := by decide +kernel
theorem dX6_put_43 : decode cX6_put 43 = .ok (.iload_n 2, 1) := by decide +kernel
theorem dX6_put_44 : decode cX6_put 44 = .ok (.iload_n 3, 1) := by decide +kernel
theorem dX6_put_45 : decode cX6_put 45 = .ok (.invokevirtual 71, 3) := by decide +kernel
theorem dX6_put_48 : decode cX6_put 48 = .ok (.iconst 0, 1) := by decide +kernel
theorem dX6_put_49 : decode cX6_put 49 = .ok (.ireturn, 1) := by decide +kernel
theorem dX6_copy_0 : decode cX6_copy 0 = .ok (.iload_n 1, 1) := by decide +kernel
theorem dX6_copy_1 : decode cX6_copy 1 = .ok (.invokestatic 55, 3) := by decide +kernel
theorem dX6_copy_4 : decode cX6_copy 4 = .ok (.ifCond .eq 10, 3) := by decide +kernel
theorem dX6_copy_7 : decode cX6_copy 7 = .ok (.iload_n 3, 1) := by decide +kernel
theorem dX6_copy_8 : decode cX6_copy 8 = .ok (.invokestatic 55, 3) := by decide +kernel
theorem dX6_copy_11 : decode cX6_copy 11 = .ok (.ifCond .ne 5, 3) := by decide +kernel
theorem dX6_copy_14 : decode cX6_copy 14 = .ok (.iconst (-1), 1) := by decide +kernel
theorem dX6_copy_15 : decode cX6_copy 15 = .ok (.ireturn, 1) := by decide +kernel
theorem dX6_copy_16 : decode cX6_copy 16 = .ok (.aload_n 0, 1) := by decide +kernel
theorem dX6_copy_17 : decode cX6_copy 17 = .ok (.getfield 11, 3) := by decide +kernel
theorem dX6_copy_20 : decode cX6_copy 20 = .ok (.iload_n 1, 1) := by decide +kernel
theorem dX6_copy_21 : decode cX6_copy 21 = .ok (.aaload, 1) := by decide +kernel
theorem dX6_copy_22 : decode cX6_copy 22 = .ok (.astore 6, 2) := by decide +kernel
theorem dX6_copy_24 : decode cX6_copy 24 = .ok (.aload_n 0, 1) := by decide +kernel
end
section
theorem dX6_copy_25 : decode cX6_copy 25 = .ok (.getfield 11, 3) := by decide +kernel
theorem dX6_copy_28 : decode cX6_copy 28 = .ok (.iload_n 3, 1) := by decide +kernel
theorem dX6_copy_29 : decode cX6_copy 29 = .ok (.aaload, 1) := by decide +kernel
theorem dX6_copy_30 : decode cX6_copy 30 = .ok (.astore 7, 2) := by decide +kernel
theorem dX6_copy_32 : decode cX6_copy 32 = .ok (.aload 6, 2) := by decide +kernel
theorem dX6_copy_34 : decode cX6_copy 34 = .ok (.invokevirtual 63, 3) := by decide +kernel
theorem dX6_copy_37 : decode cX6_copy 37 = .ok (.ifCond .ne 11, 3) := by decide +kernel
theorem dX6_copy_40 : decode cX6_copy 40 = .ok (.aload 7, 2) := by decide +kernel
theorem dX6_copy_42 : decode cX6_copy 42 = .ok (.invokevirtual 63, 3) := by decide +kernel
theorem dX6_copy_45 : decode cX6_copy 45 = .ok (.ifCond .eq 6, 3) := by decide +kernel
theorem dX6_copy_48 : decode cX6_copy 48 = .ok (.bipush (-11), 2) := by decide +kernel
theorem dX6_copy_50 : decode cX6_copy 50 = .ok (.ireturn, 1) := by decide +kernel
theorem dX6_copy_51 : decode cX6_copy 51 = .ok (.aload 6, 2) := by decide +kernel
theorem dX6_copy_53 : decode cX6_copy 53 = .ok (.getfield 74, 3) := by decide +kernel
theorem dX6_copy_56 : decode cX6_copy 56 = .ok (.aload 7, 2) := by decide +kernel
theorem dX6_copy_58 : decode cX6_copy 58 = .ok (.getfield 74, 3) := by decide +kernel
theorem dX6_copy_61 : decode cX6_copy 61 = .ok (.if_icmp .eq 6, 3) := by decide +kernel
theorem dX6_copy_64 : decode cX6_copy 64 = .ok (.bipush (-14), 2) := by decide +kernel
theorem dX6_copy_66 : decode cX6_copy 66 = .ok (.ireturn, 1) := by decide +kernel
theorem dX6_copy_67 : decode cX6_copy 67 = .ok (.aload 6, 2) := by decide +kernel
theorem dX6_copy_69 : decode cX6_copy 69 = .ok (.iload_n 2, 1) := by decide +kernel
theorem dX6_copy_70 : decode cX6_copy 70 = .ok (.iload 5, 2) := by decide +kernel
theorem dX6_copy_72 : decode cX6_copy 72 = .ok (.invokevirtual 67, 3) := by decide +kernel
theorem dX6_copy_75 : decode cX6_copy 75 = .ok (.ifCond .eq 15, 3) := by decide +kernel
theorem dX6_copy_78 : decode cX6_copy 78 = .ok (.aload 7, 2) := by decide +kernel
theorem dX6_copy_80 : decode cX6_copy 80 = .ok (.iload 4, 2) := by decide +kernel
theorem dX6_copy_82 : decode cX6_copy 82 = .ok (.iload 5, 2) := by decide +kernel
theorem dX6_copy_84 : decode cX6_copy 84 = .ok (.invokevirtual 67, 3) := by decide +kernel
theorem dX6_copy_87 : decode cX6_copy 87 = .ok (.ifCond .ne 6, 3) := by decide +kernel
theorem dX6_copy_90 : decode cX6_copy 90 = .ok (.bipush (-12), 2) := by decide +kernel
theorem dX6_copy_92 : decode cX6_copy 92 = .ok (.ireturn, 1) := by decide +kernel
theorem dX6_copy_93 : decode cX6_copy 93 = .ok (.aload 6, 2) := by decide +kernel
theorem dX6_copy_95 : decode cX6_copy 95 = .ok (.getfield 78, 3) := by decide +kernel
theorem dX6_copy_98 : decode cX6_copy 98 = .ok (.iload_n 2, 1) := by decide +kernel
theorem dX6_copy_99 : decode cX6_copy 99 = .ok (.aload 7, 2) := by decide +kernel
theorem dX6_copy_101 : decode cX6_copy 101 = .ok (.getfield 78, 3) := by decide +kernel
theorem dX6_copy_104 : decode cX6_copy 104 = .ok (.iload 4, 2) := by decide +kernel
theorem dX6_copy_106 : decode cX6_copy 106 = .ok (.iload 5, 2) := by decide +kernel
theorem dX6_copy_108 : decode cX6_copy 108 = .ok (.invokestatic 82, 3) := by decide +kernel
theorem dX6_copy_111 : decode cX6_copy 111 = .ok (.iconst 0, 1) := by decide +kernel
theorem dX6_copy_112 : decode cX6_copy 112 = .ok (.ireturn, 1) := by decide +kernel
theorem dX6_told_0 : decode cX6_told 0 = .ok (.iload_n 1, 1) := by decide +kernel
theorem dX6_told_1 : decode cX6_told 1 = .ok (.invokestatic 55, 3) := by decide +kernel
theorem dX6_told_4 : decode cX6_told 4 = .ok (.ifCond .ne 7, 3) := by decide +kernel
theorem dX6_told_7 : decode cX6_told 7 = .ok (.ldc2_w 88, 3) := by decide +kernel
theorem dX6_told_10 : decode cX6_told 10 = .ok (.lreturn, 1) := by decide +kernel
theorem dX6_told_11 : decode cX6_told 11 = .ok (.aload_n 0, 1) := by decide +kernel
theorem dX6_told_12 : decode cX6_told 12 = .ok (.getfield 11, 3) := by decide +kernel
theorem dX6_told_15 : decode cX6_told 15 = .ok (.iload_n 1, 1) := by decide +kernel
theorem dX6_told_16 : decode cX6_told 16 = .ok (.aaload, 1) := by decide +kernel
theorem dX6_told_17 : decode cX6_told 17 = .ok (.astore_n 3, 1) := by decide +kernel
theorem dX6_told_18 : decode cX6_told 18 = .ok (.aload_n 3, 1) := by decide +kernel
theorem dX6_told_19 : decode cX6_told 19 = .ok (.invokevirtual 63, 3) := by decide +kernel
theorem dX6_told_22 : decode cX6_told 22 = .ok (.ifCond .eq 7, 3) := by decide +kernel
theorem dX6_told_25 : decode cX6_told 25 = .ok (.ldc2_w 90, 3) := by decide +kernel
theorem dX6_told_28 : decode cX6_told 28 = .ok (.lreturn, 1) := by decide +kernel
theorem dX6_told_29 : decode cX6_told 29 = .ok (.aload_n 3, 1) := by decide +kernel
theorem dX6_told_30 : decode cX6_told 30 = .ok (.iload_n 2, 1) := by decide +kernel
theorem dX6_told_31 : decode cX6_told 31 = .ok (.iconst 1, 1) := by decide +kernel
theorem dX6_told_32 : decode cX6_told 32 = .ok (.invokevirtual 67, 3) := by decide +kernel
theorem dX6_told_35 : decode cX6_told 35 = .ok (.ifCond .eq 13, 3) := by decide +kernel
theorem dX6_told_38 : decode cX6_told 38 = .ok (.aload_n 3, 1) := by decide +kernel
theorem dX6_told_39 : decode cX6_told 39 = .ok (.getfield 78, 3) := by decide +kernel
theorem dX6_told_42 : decode cX6_told 42 = .ok (.iload_n 2, 1) := by decide +kernel
theorem dX6_told_43 : decode cX6_told 43 = .ok (.iaload, 1) := by decide +kernel
theorem dX6_told_44 : decode cX6_told 44 = .ok (.i2l, 1) := by decide +kernel
theorem dX6_told_45 : decode cX6_told 45 = .ok (.goto 6, 3) := by decide +kernel
theorem dX6_told_48 : decode cX6_told 48 = .ok (.ldc2_w 92, 3) := by decide +kernel
theorem dX6_told_51 : decode cX6_told 51 = .ok (.lreturn, 1) := by decide +kernel
theorem dX6_isSheet_0 : decode cX6_isSheet 0 = .ok (.iload_n 0, 1) := by decide +kernel
theorem dX6_isSheet_1 : decode cX6_isSheet 1 = .ok (.ifCond .lt 13, 3) := by decide +kernel
theorem dX6_isSheet_4 : decode cX6_isSheet 4 = .ok (.iload_n 0, 1) := by decide +kernel
theorem dX6_isSheet_5 : decode cX6_isSheet 5 = .ok (.bipush 6, 2) := by decide +kernel
theorem dX6_isSheet_7 : decode cX6_isSheet 7 = .ok (.if_icmp .ge 7, 3) := by decide +kernel
theorem dX6_isSheet_10 : decode cX6_isSheet 10 = .ok (.iconst 1, 1) := by decide +kernel
theorem dX6_isSheet_11 : decode cX6_isSheet 11 = .ok (.goto 4, 3) := by decide +kernel
theorem dX6_isSheet_14 : decode cX6_isSheet 14 = .ok (.iconst 0, 1) := by decide +kernel
theorem dX6_isSheet_15 : decode cX6_isSheet 15 = .ok (.ireturn, 1) := by decide +kernel
theorem dX6_job_0 : decode cX6_job 0 = .ok (.iload_n 1, 1) := by decide +kernel
theorem dX6_job_1 : decode cX6_job 1 = .ok (.iload_n 2, 1) := by decide +kernel
theorem dX6_job_2 : decode cX6_job 2 = .ok (.iload_n 3, 1) := by decide +kernel
theorem dX6_job_3 : decode cX6_job 3 = .ok (.invokestatic 94, 3) := by decide +kernel
theorem dX6_job_6 : decode cX6_job 6 = .ok (.ifCond .ne 5, 3) := by decide +kernel
theorem dX6_job_9 : decode cX6_job 9 = .ok (.iconst (-1), 1) := by decide +kernel
theorem dX6_job_10 : decode cX6_job 10 = .ok (.ireturn, 1) := by decide +kernel
theorem dX6_job_11 : decode cX6_job 11 = .ok (.aload_n 0, 1) := by decide +kernel
theorem dX6_job_12 : decode cX6_job 12 = .ok (.getfield 18, 3) := by decide +kernel
theorem dX6_job_15 : decode cX6_job 15 = .ok (.getfield 98, 3) := by decide +kernel
theorem dX6_job_18 : decode cX6_job 18 = .ok (.bipush 10, 2) := by decide +kernel
theorem dX6_job_20 : decode cX6_job 20 = .ok (.if_icmp .ge 16, 3) := by decide +kernel
theorem dX6_job_23 : decode cX6_job 23 = .ok (.aload_n 0, 1) := by decide +kernel
theorem dX6_job_24 : decode cX6_job 24 = .ok (.getfield 18, 3) := by decide +kernel
theorem dX6_job_27 : decode cX6_job 27 = .ok (.iload_n 1, 1) := by decide +kernel
theorem dX6_job_28 : decode cX6_job 28 = .ok (.iload_n 2, 1) := by decide +kernel
theorem dX6_job_29 : decode cX6_job 29 = .ok (.iload_n 3, 1) := by decide +kernel
theorem dX6_job_30 : decode cX6_job 30 = .ok (.invokevirtual 101, 3) := by decide +kernel
theorem dX6_job_33 : decode cX6_job 33 = .ok (.goto 5, 3) := by decide +kernel
theorem dX6_job_36 : decode cX6_job 36 = .ok (.bipush (-2), 2) := by decide +kernel
theorem dX6_job_38 : decode cX6_job 38 = .ok (.ireturn, 1) := by decide +kernel
theorem dX6_after_0 : decode cX6_after 0 = .ok (.aload_n 0, 1) := by decide +kernel
theorem dX6_after_1 : decode cX6_after 1 = .ok (.getfield 18, 3) := by decide +kernel
theorem dX6_after_4 : decode cX6_after 4 = .ok (.iload_n 1, 1) := by decide +kernel
theorem dX6_after_5 : decode cX6_after 5 = .ok (.invokevirtual 105, 3) := by decide +kernel
theorem dX6_after_8 : decode cX6_after 8 = .ok (.ifCond .eq 14, 3) := by decide +kernel
theorem dX6_after_11 : decode cX6_after 11 = .ok (.aload_n 0, 1) := by decide +kernel
theorem dX6_after_12 : decode cX6_after 12 = .ok (.getfield 18, 3) := by decide +kernel
theorem dX6_after_15 : decode cX6_after 15 = .ok (.iload_n 2, 1) := by decide +kernel
theorem dX6_after_16 : decode cX6_after 16 = .ok (.invokevirtual 105, 3) := by decide +kernel
theorem dX6_after_19 : decode cX6_after 19 = .ok (.ifCond .ne 5, 3) := by decide +kernel
theorem dX6_after_22 : decode cX6_after 22 = .ok (.iconst (-1), 1) := by decide +kernel
theorem dX6_after_23 : decode cX6_after 23 = .ok (.ireturn, 1) := by decide +kernel
theorem dX6_after_24 : decode cX6_after 24 = .ok (.aload_n 0, 1) := by decide +kernel
theorem dX6_after_25 : decode cX6_after 25 = .ok (.iload_n 1, 1) := by decide +kernel
theorem dX6_after_26 : decode cX6_after 26 = .ok (.iload_n 2, 1) := by decide +kernel
theorem dX6_after_27 : decode cX6_after 27 = .ok (.invokevirtual 108, 3) := by decide +kernel
theorem dX6_after_30 : decode cX6_after 30 = .ok (.ifCond .eq 8, 3) := by decide +kernel
theorem dX6_after_33 : decode cX6_after 33 = .ok (.bipush (-4), 2) := by decide +kernel
theorem dX6_after_35 : decode cX6_after 35 = .ok (.goto 15, 3) := by decide +kernel
theorem dX6_after_38 : decode cX6_after 38 = .ok (.aload_n 0, 1) := by decide +kernel
theorem dX6_after_39 : decode cX6_after 39 = .ok (.getfield 18, 3) := by decide +kernel
theorem dX6_after_42 : decode cX6_after 42 = .ok (.iload_n 1, 1) := by decide +kernel
theorem dX6_after_43 : decode cX6_after 43 = .ok (.iload_n 2, 1) := by decide +kernel
theorem dX6_after_44 : decode cX6_after 44 = .ok (.invokestatic 111, 3) := by decide +kernel
theorem dX6_after_47 : decode cX6_after 47 = .ok (.invokevirtual 115, 3) := by decide +kernel
theorem dX6_after_50 : decode cX6_after 50 = .ok (.ireturn, 1) := by decide +kernel
theorem dX6_read_0 : decode cX6_read 0 = .ok (.aload_n 0, 1) := by decide +kernel
theorem dX6_read_1 : decode cX6_read 1 = .ok (.getfield 18, 3) := by decide +kernel
theorem dX6_read_4 : decode cX6_read 4 = .ok (.iload_n 1, 1) := by decide +kernel
theorem dX6_read_5 : decode cX6_read 5 = .ok (.invokevirtual 105, 3) := by decide +kernel
theorem dX6_read_8 : decode cX6_read 8 = .ok (.ifCond .eq 10, 3) := by decide +kernel
theorem dX6_read_11 : decode cX6_read 11 = .ok (.iload_n 2, 1) := by decide +kernel
theorem dX6_read_12 : decode cX6_read 12 = .ok (.invokestatic 55, 3) := by decide +kernel
theorem dX6_read_15 : decode cX6_read 15 = .ok (.ifCond .ne 5, 3) := by decide +kernel
theorem dX6_read_18 : decode cX6_read 18 = .ok (.iconst (-1), 1) := by decide +kernel
theorem dX6_read_19 : decode cX6_read 19 = .ok (.ireturn, 1) := by decide +kernel
theorem dX6_read_20 : decode cX6_read 20 = .ok (.aload_n 0, 1) := by decide +kernel
theorem dX6_read_21 : decode cX6_read 21 = .ok (.getfield 11, 3) := by decide +kernel
theorem dX6_read_24 : decode cX6_read 24 = .ok (.iload_n 2, 1) := by decide +kernel
theorem dX6_read_25 : decode cX6_read 25 = .ok (.aaload, 1) := by decide +kernel
theorem dX6_read_26 : decode cX6_read 26 = .ok (.astore 5, 2) := by decide +kernel
theorem dX6_read_28 : decode cX6_read 28 = .ok (.aload 5, 2) := by decide +kernel
theorem dX6_read_30 : decode cX6_read 30 = .ok (.invokevirtual 63, 3) := by decide +kernel
theorem dX6_read_33 : decode cX6_read 33 = .ok (.ifCond .eq 6, 3) := by decide +kernel
theorem dX6_read_36 : decode cX6_read 36 = .ok (.bipush (-11), 2) := by decide +kernel
theorem dX6_read_38 : decode cX6_read 38 = .ok (.ireturn, 1) := by decide +kernel
theorem dX6_read_39 : decode cX6_read 39 = .ok (.iload 4, 2) := by decide +kernel
theorem dX6_read_41 : decode cX6_read 41 = .ok (.ifCond .ge 6, 3) := by decide +kernel
theorem dX6_read_44 : decode cX6_read 44 = .ok (.bipush (-13), 2) := by decide +kernel
theorem dX6_read_46 : decode cX6_read 46 = .ok (.ireturn, 1) := by decide +kernel
theorem dX6_read_47 : decode cX6_read 47 = .ok (.aload 5, 2) := by decide +kernel
theorem dX6_read_49 : decode cX6_read 49 = .ok (.iload_n 3, 1) := by decide +kernel
theorem dX6_read_50 : decode cX6_read 50 = .ok (.iload 4, 2) := by decide +kernel
theorem dX6_read_52 : decode cX6_read 52 = .ok (.invokevirtual 67, 3) := by decide +kernel
theorem dX6_read_55 : decode cX6_read 55 = .ok (.ifCond .eq 16, 3) := by decide +kernel
theorem dX6_read_58 : decode cX6_read 58 = .ok (.aload_n 0, 1) := by decide +kernel
theorem dX6_read_59 : decode cX6_read 59 = .ok (.iload_n 1, 1) := by decide +kernel
theorem dX6_read_60 : decode cX6_read 60 = .ok (.aload 5, 2) := by decide +kernel
theorem dX6_read_62 : decode cX6_read 62 = .ok (.iload_n 3, 1) := by decide +kernel
theorem dX6_read_63 : decode cX6_read 63 = .ok (.iload 4, 2) := by decide +kernel
theorem dX6_read_65 : decode cX6_read 65 = .ok (.invokevirtual 119, 3) := by decide +kernel
theorem dX6_read_68 : decode cX6_read 68 = .ok (.goto 5, 3) := by decide +kernel
theorem dX6_read_71 : decode cX6_read 71 = .ok (.bipush (-12), 2) := by decide +kernel
theorem dX6_read_73 : decode cX6_read 73 = .ok (.ireturn, 1) := by decide +kernel
theorem dX6_free_0 : decode cX6_free 0 = .ok (.aload_n 0, 1) := by decide +kernel
theorem dX6_free_1 : decode cX6_free 1 = .ok (.getfield 18, 3) := by decide +kernel
theorem dX6_free_4 : decode cX6_free 4 = .ok (.iload_n 1, 1) := by decide +kernel
theorem dX6_free_5 : decode cX6_free 5 = .ok (.invokevirtual 105, 3) := by decide +kernel
theorem dX6_free_8 : decode cX6_free 8 = .ok (.ifCond .eq 14, 3) := by decide +kernel
theorem dX6_free_11 : decode cX6_free 11 = .ok (.aload_n 0, 1) := by decide +kernel
theorem dX6_free_12 : decode cX6_free 12 = .ok (.getfield 18, 3) := by decide +kernel
theorem dX6_free_15 : decode cX6_free 15 = .ok (.iload_n 2, 1) := by decide +kernel
theorem dX6_free_16 : decode cX6_free 16 = .ok (.invokevirtual 105, 3) := by decide +kernel
theorem dX6_free_19 : decode cX6_free 19 = .ok (.ifCond .ne 5, 3) := by decide +kernel
theorem dX6_free_22 : decode cX6_free 22 = .ok (.iconst (-1), 1) := by decide +kernel
theorem dX6_free_23 : decode cX6_free 23 = .ok (.ireturn, 1) := by decide +kernel
theorem dX6_free_24 : decode cX6_free 24 = .ok (.aload_n 0, 1) := by decide +kernel
theorem dX6_free_25 : decode cX6_free 25 = .ok (.getfield 18, 3) := by decide +kernel
theorem dX6_free_28 : decode cX6_free 28 = .ok (.iload_n 1, 1) := by decide +kernel
theorem dX6_free_29 : decode cX6_free 29 = .ok (.iload_n 2, 1) := by decide +kernel
theorem dX6_free_30 : decode cX6_free 30 = .ok (.invokevirtual 123, 3) := by decide +kernel
theorem dX6_free_33 : decode cX6_free 33 = .ok (.ireturn, 1) := by decide +kernel
theorem dX6_ring_0 : decode cX6_ring 0 = .ok (.iload_n 1, 1) := by decide +kernel
theorem dX6_ring_1 : decode cX6_ring 1 = .ok (.ifCond .ge 7, 3) := by decide +kernel
theorem dX6_ring_4 : decode cX6_ring 4 = .ok (.iconst (-1), 1) := by decide +kernel
theorem dX6_ring_5 : decode cX6_ring 5 = .ok (.goto 11, 3) := by decide +kernel
theorem dX6_ring_8 : decode cX6_ring 8 = .ok (.aload_n 0, 1) := by decide +kernel
theorem dX6_ring_9 : decode cX6_ring 9 = .ok (.getfield 50, 3) := by decide +kernel
theorem dX6_ring_12 : decode cX6_ring 12 = .ok (.iload_n 1, 1) := by decide +kernel
theorem dX6_ring_13 : decode cX6_ring 13 = .ok (.invokevirtual 126, 3) := by decide +kernel
theorem dX6_ring_16 : decode cX6_ring 16 = .ok (.ireturn, 1) := by decide +kernel
theorem dX6_about_0 : decode cX6_about 0 = .ok (.aload_n 0, 1) := by decide +kernel
theorem dX6_about_1 : decode cX6_about 1 = .ok (.getfield 18, 3) := by decide +kernel
theorem dX6_about_4 : decode cX6_about 4 = .ok (.iload_n 1, 1) := by decide +kernel
theorem dX6_about_5 : decode cX6_about 5 = .ok (.invokevirtual 105, 3) := by decide +kernel
theorem dX6_about_8 : decode cX6_about 8 = .ok (.ifCond .ne 6, 3) := by decide +kernel
theorem dX6_about_11 : decode cX6_about 11 = .ok (.bipush (-9), 2) := by decide +kernel
theorem dX6_about_13 : decode cX6_about 13 = .ok (.ireturn, 1) := by decide +kernel
theorem dX6_about_14 : decode cX6_about 14 = .ok (.iload_n 2, 1) := by decide +kernel
theorem dX6_about_15 : decode cX6_about 15 = .ok (.tableswitch 179 0 11 #[61, 71, 80, 89, 99, 109, 119, 129, 139, 149, 159, 169], 61) := by decide +kernel
theorem dX6_about_76 : decode cX6_about 76 = .ok (.aload_n 0, 1) := by decide +kernel
theorem dX6_about_77 : decode cX6_about 77 = .ok (.getfield 18, 3) := by decide +kernel
theorem dX6_about_80 : decode cX6_about 80 = .ok (.getfield 129, 3) := by decide +kernel
theorem dX6_about_83 : decode cX6_about 83 = .ok (.iload_n 1, 1) := by decide +kernel
theorem dX6_about_84 : decode cX6_about 84 = .ok (.iaload, 1) := by decide +kernel
theorem dX6_about_85 : decode cX6_about 85 = .ok (.ireturn, 1) := by decide +kernel
theorem dX6_about_86 : decode cX6_about 86 = .ok (.aload_n 0, 1) := by decide +kernel
theorem dX6_about_87 : decode cX6_about 87 = .ok (.getfield 18, 3) := by decide +kernel
theorem dX6_about_90 : decode cX6_about 90 = .ok (.iload_n 1, 1) := by decide +kernel
theorem dX6_about_91 : decode cX6_about 91 = .ok (.invokevirtual 132, 3) := by decide +kernel
theorem dX6_about_94 : decode cX6_about 94 = .ok (.ireturn, 1) := by decide +kernel
theorem dX6_about_95 : decode cX6_about 95 = .ok (.aload_n 0, 1) := by decide +kernel
theorem dX6_about_96 : decode cX6_about 96 = .ok (.getfield 18, 3) := by decide +kernel
theorem dX6_about_99 : decode cX6_about 99 = .ok (.iload_n 1, 1) := by decide +kernel
theorem dX6_about_100 : decode cX6_about 100 = .ok (.invokevirtual 135, 3) := by decide +kernel
theorem dX6_about_103 : decode cX6_about 103 = .ok (.ireturn, 1) := by decide +kernel
theorem dX6_about_104 : decode cX6_about 104 = .ok (.aload_n 0, 1) := by decide +kernel
theorem dX6_about_105 : decode cX6_about 105 = .ok (.getfield 18, 3) := by decide +kernel
theorem dX6_about_108 : decode cX6_about 108 = .ok (.getfield 138, 3) := by decide +kernel
theorem dX6_about_111 : decode cX6_about 111 = .ok (.iload_n 1, 1) := by decide +kernel
theorem dX6_about_112 : decode cX6_about 112 = .ok (.iaload, 1) := by decide +kernel
theorem dX6_about_113 : decode cX6_about 113 = .ok (.ireturn, 1) := by decide +kernel
theorem dX6_about_114 : decode cX6_about 114 = .ok (.aload_n 0, 1) := by decide +kernel
theorem dX6_about_115 : decode cX6_about 115 = .ok (.getfield 18, 3) := by decide +kernel
theorem dX6_about_118 : decode cX6_about 118 = .ok (.getfield 141, 3) := by decide +kernel
theorem dX6_about_121 : decode cX6_about 121 = .ok (.iload_n 1, 1) := by decide +kernel
theorem dX6_about_122 : decode cX6_about 122 = .ok (.iaload, 1) := by decide +kernel
theorem dX6_about_123 : decode cX6_about 123 = .ok (.ireturn, 1) := by decide +kernel
theorem dX6_about_124 : decode cX6_about 124 = .ok (.aload_n 0, 1) := by decide +kernel
theorem dX6_about_125 : decode cX6_about 125 = .ok (.invokevirtual 144, 3) := by decide +kernel
theorem dX6_about_128 : decode cX6_about 128 = .ok (.getfield 148, 3) := by decide +kernel
theorem dX6_about_131 : decode cX6_about 131 = .ok (.iload_n 1, 1) := by decide +kernel
theorem dX6_about_132 : decode cX6_about 132 = .ok (.iaload, 1) := by decide +kernel
theorem dX6_about_133 : decode cX6_about 133 = .ok (.ireturn, 1) := by decide +kernel
theorem dX6_about_134 : decode cX6_about 134 = .ok (.aload_n 0, 1) := by decide +kernel
theorem dX6_about_135 : decode cX6_about 135 = .ok (.invokevirtual 144, 3) := by decide +kernel
theorem dX6_about_138 : decode cX6_about 138 = .ok (.getfield 151, 3) := by decide +kernel
theorem dX6_about_141 : decode cX6_about 141 = .ok (.iload_n 1, 1) := by decide +kernel
theorem dX6_about_142 : decode cX6_about 142 = .ok (.iaload, 1) := by decide +kernel
theorem dX6_about_143 : decode cX6_about 143 = .ok (.ireturn, 1) := by decide +kernel
theorem dX6_about_144 : decode cX6_about 144 = .ok (.aload_n 0, 1) := by decide +kernel
theorem dX6_about_145 : decode cX6_about 145 = .ok (.invokevirtual 144, 3) := by decide +kernel
theorem dX6_about_148 : decode cX6_about 148 = .ok (.getfield 154, 3) := by decide +kernel
theorem dX6_about_151 : decode cX6_about 151 = .ok (.iload_n 1, 1) := by decide +kernel
theorem dX6_about_152 : decode cX6_about 152 = .ok (.iaload, 1) := by decide +kernel
theorem dX6_about_153 : decode cX6_about 153 = .ok (.ireturn, 1) := by decide +kernel
theorem dX6_about_154 : decode cX6_about 154 = .ok (.aload_n 0, 1) := by decide +kernel
theorem dX6_about_155 : decode cX6_about 155 = .ok (.invokevirtual 144, 3) := by decide +kernel
theorem dX6_about_158 : decode cX6_about 158 = .ok (.getfield 157, 3) := by decide +kernel
theorem dX6_about_161 : decode cX6_about 161 = .ok (.iload_n 1, 1) := by decide +kernel
theorem dX6_about_162 : decode cX6_about 162 = .ok (.iaload, 1) := by decide +kernel
theorem dX6_about_163 : decode cX6_about 163 = .ok (.ireturn, 1) := by decide +kernel
theorem dX6_about_164 : decode cX6_about 164 = .ok (.aload_n 0, 1) := by decide +kernel
theorem dX6_about_165 : decode cX6_about 165 = .ok (.invokevirtual 160, 3) := by decide +kernel
theorem dX6_about_168 : decode cX6_about 168 = .ok (.getfield 164, 3) := by decide +kernel
theorem dX6_about_171 : decode cX6_about 171 = .ok (.iload_n 1, 1) := by decide +kernel
theorem dX6_about_172 : decode cX6_about 172 = .ok (.iaload, 1) := by decide +kernel
theorem dX6_about_173 : decode cX6_about 173 = .ok (.ireturn, 1) := by decide +kernel
theorem dX6_about_174 : decode cX6_about 174 = .ok (.aload_n 0, 1) := by decide +kernel
theorem dX6_about_175 : decode cX6_about 175 = .ok (.invokevirtual 160, 3) := by decide +kernel
theorem dX6_about_178 : decode cX6_about 178 = .ok (.getfield 167, 3) := by decide +kernel
theorem dX6_about_181 : decode cX6_about 181 = .ok (.iload_n 1, 1) := by decide +kernel
theorem dX6_about_182 : decode cX6_about 182 = .ok (.iaload, 1) := by decide +kernel
theorem dX6_about_183 : decode cX6_about 183 = .ok (.ireturn, 1) := by decide +kernel
theorem dX6_about_184 : decode cX6_about 184 = .ok (.aload_n 0, 1) := by decide +kernel
theorem dX6_about_185 : decode cX6_about 185 = .ok (.invokevirtual 170, 3) := by decide +kernel
theorem dX6_about_188 : decode cX6_about 188 = .ok (.getfield 174, 3) := by decide +kernel
theorem dX6_about_191 : decode cX6_about 191 = .ok (.iload_n 1, 1) := by decide +kernel
theorem dX6_about_192 : decode cX6_about 192 = .ok (.iaload, 1) := by decide +kernel
theorem dX6_about_193 : decode cX6_about 193 = .ok (.ireturn, 1) := by decide +kernel
theorem dX6_about_194 : decode cX6_about 194 = .ok (.bipush (-9), 2) := by decide +kernel
theorem dX6_about_196 : decode cX6_about 196 = .ok (.ireturn, 1) := by decide +kernel
theorem dX6_undo_0 : decode cX6_undo 0 = .ok (.aload_n 0, 1) := by decide +kernel
theorem dX6_undo_1 : decode cX6_undo 1 = .ok (.getfield 18, 3) := by decide +kernel
theorem dX6_undo_4 : decode cX6_undo 4 = .ok (.invokevirtual 175, 3) := by decide +kernel
theorem dX6_undo_7 : decode cX6_undo 7 = .ok (.ifCond .eq 7, 3) := by decide +kernel
theorem dX6_undo_10 : decode cX6_undo 10 = .ok (.iconst 1, 1) := by decide +kernel
theorem dX6_undo_11 : decode cX6_undo 11 = .ok (.goto 5, 3) := by decide +kernel
theorem dX6_undo_14 : decode cX6_undo 14 = .ok (.bipush (-3), 2) := by decide +kernel
theorem dX6_undo_16 : decode cX6_undo 16 = .ok (.ireturn, 1) := by decide +kernel
theorem dX6_isKind_0 : decode cX6_isKind 0 = .ok (.iload_n 0, 1) := by decide +kernel
theorem dX6_isKind_1 : decode cX6_isKind 1 = .ok (.tableswitch 78 0 3 #[31, 33, 38, 63], 31) := by decide +kernel
theorem dX6_isKind_32 : decode cX6_isKind 32 = .ok (.iconst 1, 1) := by decide +kernel
theorem dX6_isKind_33 : decode cX6_isKind 33 = .ok (.ireturn, 1) := by decide +kernel
theorem dX6_isKind_34 : decode cX6_isKind 34 = .ok (.iload_n 1, 1) := by decide +kernel
theorem dX6_isKind_35 : decode cX6_isKind 35 = .ok (.invokestatic 178, 3) := by decide +kernel
theorem dX6_isKind_38 : decode cX6_isKind 38 = .ok (.ireturn, 1) := by decide +kernel
theorem dX6_isKind_39 : decode cX6_isKind 39 = .ok (.iload_n 1, 1) := by decide +kernel
theorem dX6_isKind_40 : decode cX6_isKind 40 = .ok (.invokestatic 178, 3) := by decide +kernel
theorem dX6_isKind_43 : decode cX6_isKind 43 = .ok (.ifCond .eq 19, 3) := by decide +kernel
theorem dX6_isKind_46 : decode cX6_isKind 46 = .ok (.iload_n 2, 1) := by decide +kernel
theorem dX6_isKind_47 : decode cX6_isKind 47 = .ok (.invokestatic 178, 3) := by decide +kernel
theorem dX6_isKind_50 : decode cX6_isKind 50 = .ok (.ifCond .eq 12, 3) := by decide +kernel
theorem dX6_isKind_53 : decode cX6_isKind 53 = .ok (.iload_n 1, 1) := by decide +kernel
theorem dX6_isKind_54 : decode cX6_isKind 54 = .ok (.iload_n 2, 1) := by decide +kernel
theorem dX6_isKind_55 : decode cX6_isKind 55 = .ok (.if_icmp .gt 7, 3) := by decide +kernel
theorem dX6_isKind_58 : decode cX6_isKind 58 = .ok (.iconst 1, 1) := by decide +kernel
theorem dX6_isKind_59 : decode cX6_isKind 59 = .ok (.goto 4, 3) := by decide +kernel
theorem dX6_isKind_62 : decode cX6_isKind 62 = .ok (.iconst 0, 1) := by decide +kernel
theorem dX6_isKind_63 : decode cX6_isKind 63 = .ok (.ireturn, 1) := by decide +kernel
theorem dX6_isKind_64 : decode cX6_isKind 64 = .ok (.iload_n 1, 1) := by decide +kernel
theorem dX6_isKind_65 : decode cX6_isKind 65 = .ok (.ifCond .eq 8, 3) := by decide +kernel
theorem dX6_isKind_68 : decode cX6_isKind 68 = .ok (.iload_n 1, 1) := by decide +kernel
theorem dX6_isKind_69 : decode cX6_isKind 69 = .ok (.iconst 1, 1) := by decide +kernel
theorem dX6_isKind_70 : decode cX6_isKind 70 = .ok (.if_icmp .ne 7, 3) := by decide +kernel
theorem dX6_isKind_73 : decode cX6_isKind 73 = .ok (.iconst 1, 1) := by decide +kernel
theorem dX6_isKind_74 : decode cX6_isKind 74 = .ok (.goto 4, 3) := by decide +kernel
theorem dX6_isKind_77 : decode cX6_isKind 77 = .ok (.iconst 0, 1) := by decide +kernel
theorem dX6_isKind_78 : decode cX6_isKind 78 = .ok (.ireturn, 1) := by decide +kernel
theorem dX6_isKind_79 : decode cX6_isKind 79 = .ok (.iconst 0, 1) := by decide +kernel
theorem dX6_isKind_80 : decode cX6_isKind 80 = .ok (.ireturn, 1) := by decide +kernel
theorem dX6_isBound_0 : decode cX6_isBound 0 = .ok (.iload_n 0, 1) := by decide +kernel
theorem dX6_isBound_1 : decode cX6_isBound 1 = .ok (.iconst 1, 1) := by decide +kernel
theorem dX6_isBound_2 : decode cX6_isBound 2 = .ok (.if_icmp .lt 13, 3) := by decide +kernel
theorem dX6_isBound_5 : decode cX6_isBound 5 = .ok (.iload_n 0, 1) := by decide +kernel
theorem dX6_isBound_6 : decode cX6_isBound 6 = .ok (.bipush 40, 2) := by decide +kernel
theorem dX6_isBound_8 : decode cX6_isBound 8 = .ok (.if_icmp .gt 7, 3) := by decide +kernel
theorem dX6_isBound_11 : decode cX6_isBound 11 = .ok (.iconst 1, 1) := by decide +kernel
theorem dX6_isBound_12 : decode cX6_isBound 12 = .ok (.goto 4, 3) := by decide +kernel
theorem dX6_isBound_15 : decode cX6_isBound 15 = .ok (.iconst 0, 1) := by decide +kernel
theorem dX6_isBound_16 : decode cX6_isBound 16 = .ok (.ireturn, 1) := by decide +kernel
theorem dX6_readPlaces_0 : decode cX6_readPlaces 0 = .ok (.iconst 0, 1) := by decide +kernel
theorem dX6_readPlaces_1 : decode cX6_readPlaces 1 = .ok (.istore 5, 2) := by decide +kernel
theorem dX6_readPlaces_3 : decode cX6_readPlaces 3 = .ok (.iconst 0, 1) := by decide +kernel
theorem dX6_readPlaces_4 : decode cX6_readPlaces 4 = .ok (.istore 6, 2) := by decide +kernel
theorem dX6_readPlaces_6 : decode cX6_readPlaces 6 = .ok (.iload 6, 2) := by decide +kernel
theorem dX6_readPlaces_8 : decode cX6_readPlaces 8 = .ok (.iload 4, 2) := by decide +kernel
theorem dX6_readPlaces_10 : decode cX6_readPlaces 10 = .ok (.if_icmp .ge 58, 3) := by decide +kernel
theorem dX6_readPlaces_13 : decode cX6_readPlaces 13 = .ok (.aload_n 2, 1) := by decide +kernel
theorem dX6_readPlaces_14 : decode cX6_readPlaces 14 = .ok (.getfield 78, 3) := by decide +kernel
theorem dX6_readPlaces_17 : decode cX6_readPlaces 17 = .ok (.iload_n 3, 1) := by decide +kernel
theorem dX6_readPlaces_18 : decode cX6_readPlaces 18 = .ok (.iload 6, 2) := by decide +kernel
theorem dX6_readPlaces_20 : decode cX6_readPlaces 20 = .ok (.iadd, 1) := by decide +kernel
theorem dX6_readPlaces_21 : decode cX6_readPlaces 21 = .ok (.iaload, 1) := by decide +kernel
theorem dX6_readPlaces_22 : decode cX6_readPlaces 22 = .ok (.istore 7, 2) := by decide +kernel
theorem dX6_readPlaces_24 : decode cX6_readPlaces 24 = .ok (.aload_n 0, 1) := by decide +kernel
theorem dX6_readPlaces_25 : decode cX6_readPlaces 25 = .ok (.getfield 18, 3) := by decide +kernel
theorem dX6_readPlaces_28 : decode cX6_readPlaces 28 = .ok (.iload 7, 2) := by decide +kernel
theorem dX6_readPlaces_30 : decode cX6_readPlaces 30 = .ok (.invokevirtual 105, 3) := by decide +kernel
theorem dX6_readPlaces_33 : decode cX6_readPlaces 33 = .ok (.ifCond .ne 6, 3) := by decide +kernel
theorem dX6_readPlaces_36 : decode cX6_readPlaces 36 = .ok (.bipush (-15), 2) := by decide +kernel
theorem dX6_readPlaces_38 : decode cX6_readPlaces 38 = .ok (.ireturn, 1) := by decide +kernel
theorem dX6_readPlaces_39 : decode cX6_readPlaces 39 = .ok (.aload_n 0, 1) := by decide +kernel
theorem dX6_readPlaces_40 : decode cX6_readPlaces 40 = .ok (.iload_n 1, 1) := by decide +kernel
theorem dX6_readPlaces_41 : decode cX6_readPlaces 41 = .ok (.iload 7, 2) := by decide +kernel
theorem dX6_readPlaces_43 : decode cX6_readPlaces 43 = .ok (.invokevirtual 108, 3) := by decide +kernel
theorem dX6_readPlaces_46 : decode cX6_readPlaces 46 = .ok (.ifCond .eq 6, 3) := by decide +kernel
theorem dX6_readPlaces_49 : decode cX6_readPlaces 49 = .ok (.bipush (-4), 2) := by decide +kernel
theorem dX6_readPlaces_51 : decode cX6_readPlaces 51 = .ok (.ireturn, 1) := by decide +kernel
theorem dX6_readPlaces_52 : decode cX6_readPlaces 52 = .ok (.iload 5, 2) := by decide +kernel
theorem dX6_readPlaces_54 : decode cX6_readPlaces 54 = .ok (.iload 7, 2) := by decide +kernel
theorem dX6_readPlaces_56 : decode cX6_readPlaces 56 = .ok (.invokestatic 111, 3) := by decide +kernel
theorem dX6_readPlaces_59 : decode cX6_readPlaces 59 = .ok (.ior, 1) := by decide +kernel
theorem dX6_readPlaces_60 : decode cX6_readPlaces 60 = .ok (.istore 5, 2) := by decide +kernel
theorem dX6_readPlaces_62 : decode cX6_readPlaces 62 = .ok (.iinc 6 1, 3) := by decide +kernel
theorem dX6_readPlaces_65 : decode cX6_readPlaces 65 = .ok (.goto (-59), 3) := by decide +kernel
theorem dX6_readPlaces_68 : decode cX6_readPlaces 68 = .ok (.aload_n 0, 1) := by decide +kernel
theorem dX6_readPlaces_69 : decode cX6_readPlaces 69 = .ok (.getfield 18, 3) := by decide +kernel
theorem dX6_readPlaces_72 : decode cX6_readPlaces 72 = .ok (.iload_n 1, 1) := by decide +kernel
theorem dX6_readPlaces_73 : decode cX6_readPlaces 73 = .ok (.iload 5, 2) := by decide +kernel
theorem dX6_readPlaces_75 : decode cX6_readPlaces 75 = .ok (.invokevirtual 115, 3) := by decide +kernel
theorem dX6_readPlaces_78 : decode cX6_readPlaces 78 = .ok (.ireturn, 1) := by decide +kernel
theorem dX6_isRefused_0 : decode cX6_isRefused 0 = .ok (.iload_n 1, 1) := by decide +kernel
theorem dX6_isRefused_1 : decode cX6_isRefused 1 = .ok (.iload_n 2, 1) := by decide +kernel
theorem dX6_isRefused_2 : decode cX6_isRefused 2 = .ok (.if_icmp .eq 21, 3) := by decide +kernel
theorem dX6_isRefused_5 : decode cX6_isRefused 5 = .ok (.aload_n 0, 1) := by decide +kernel
theorem dX6_isRefused_6 : decode cX6_isRefused 6 = .ok (.invokevirtual 144, 3) := by decide +kernel
theorem dX6_isRefused_9 : decode cX6_isRefused 9 = .ok (.getfield 148, 3) := by decide +kernel
theorem dX6_isRefused_12 : decode cX6_isRefused 12 = .ok (.iload_n 2, 1) := by decide +kernel
theorem dX6_isRefused_13 : decode cX6_isRefused 13 = .ok (.iaload, 1) := by decide +kernel
theorem dX6_isRefused_14 : decode cX6_isRefused 14 = .ok (.iload_n 1, 1) := by decide +kernel
theorem dX6_isRefused_15 : decode cX6_isRefused 15 = .ok (.invokestatic 181, 3) := by decide +kernel
theorem dX6_isRefused_18 : decode cX6_isRefused 18 = .ok (.ifCond .ne 5, 3) := by decide +kernel
theorem dX6_isRefused_21 : decode cX6_isRefused 21 = .ok (.iconst 0, 1) := by decide +kernel
theorem dX6_isRefused_22 : decode cX6_isRefused 22 = .ok (.ireturn, 1) := by decide +kernel
theorem dX6_isRefused_23 : decode cX6_isRefused 23 = .ok (.aload_n 0, 1) := by decide +kernel
theorem dX6_isRefused_24 : decode cX6_isRefused 24 = .ok (.getfield 50, 3) := by decide +kernel
theorem dX6_isRefused_27 : decode cX6_isRefused 27 = .ok (.iload_n 1, 1) := by decide +kernel
theorem dX6_isRefused_28 : decode cX6_isRefused 28 = .ok (.iload_n 2, 1) := by decide +kernel
theorem dX6_isRefused_29 : decode cX6_isRefused 29 = .ok (.invokevirtual 184, 3) := by decide +kernel
theorem dX6_isRefused_32 : decode cX6_isRefused 32 = .ok (.iconst 1, 1) := by decide +kernel
theorem dX6_isRefused_33 : decode cX6_isRefused 33 = .ok (.ireturn, 1) := by decide +kernel
theorem dX6_least_0 : decode cX6_least 0 = .ok (.aload_n 0, 1) := by decide +kernel
theorem dX6_least_1 : decode cX6_least 1 = .ok (.invokevirtual 160, 3) := by decide +kernel
theorem dX6_least_4 : decode cX6_least 4 = .ok (.getfield 187, 3) := by decide +kernel
theorem dX6_least_7 : decode cX6_least 7 = .ok (.ireturn, 1) := by decide +kernel
theorem dX6_day_0 : decode cX6_day 0 = .ok (.iload_n 1, 1) := by decide +kernel
theorem dX6_day_1 : decode cX6_day 1 = .ok (.iconst 1, 1) := by decide +kernel
theorem dX6_day_2 : decode cX6_day 2 = .ok (.if_icmp .lt 12, 3) := by decide +kernel
theorem dX6_day_5 : decode cX6_day 5 = .ok (.iload_n 2, 1) := by decide +kernel
theorem dX6_day_6 : decode cX6_day 6 = .ok (.ifCond .lt 8, 3) := by decide +kernel
theorem dX6_day_9 : decode cX6_day 9 = .ok (.iload_n 2, 1) := by decide +kernel
theorem dX6_day_10 : decode cX6_day 10 = .ok (.iconst 1, 1) := by decide +kernel
theorem dX6_day_11 : decode cX6_day 11 = .ok (.if_icmp .le 5, 3) := by decide +kernel
theorem dX6_day_14 : decode cX6_day 14 = .ok (.iconst (-1), 1) := by decide +kernel
theorem dX6_day_15 : decode cX6_day 15 = .ok (.ireturn, 1) := by decide +kernel
theorem dX6_day_16 : decode cX6_day 16 = .ok (.aload_n 0, 1) := by decide +kernel
theorem dX6_day_17 : decode cX6_day 17 = .ok (.invokevirtual 160, 3) := by decide +kernel
theorem dX6_day_20 : decode cX6_day 20 = .ok (.astore_n 3, 1) := by decide +kernel
theorem dX6_day_21 : decode cX6_day 21 = .ok (.iload_n 1, 1) := by decide +kernel
theorem dX6_day_22 : decode cX6_day 22 = .ok (.aload_n 3, 1) := by decide +kernel
theorem dX6_day_23 : decode cX6_day 23 = .ok (.getfield 187, 3) := by decide +kernel
theorem dX6_day_26 : decode cX6_day 26 = .ok (.if_icmp .le 6, 3) := by decide +kernel
theorem dX6_day_29 : decode cX6_day 29 = .ok (.bipush (-3), 2) := by decide +kernel
theorem dX6_day_31 : decode cX6_day 31 = .ok (.ireturn, 1) := by decide +kernel
theorem dX6_day_32 : decode cX6_day 32 = .ok (.iload_n 2, 1) := by decide +kernel
theorem dX6_day_33 : decode cX6_day 33 = .ok (.ifCond .ne 12, 3) := by decide +kernel
theorem dX6_day_36 : decode cX6_day 36 = .ok (.aload_n 3, 1) := by decide +kernel
theorem dX6_day_37 : decode cX6_day 37 = .ok (.getfield 190, 3) := by decide +kernel
theorem dX6_day_40 : decode cX6_day 40 = .ok (.iload_n 1, 1) := by decide +kernel
theorem dX6_day_41 : decode cX6_day 41 = .ok (.iaload, 1) := by decide +kernel
theorem dX6_day_42 : decode cX6_day 42 = .ok (.goto 9, 3) := by decide +kernel
theorem dX6_day_45 : decode cX6_day 45 = .ok (.aload_n 3, 1) := by decide +kernel
theorem dX6_day_46 : decode cX6_day 46 = .ok (.getfield 193, 3) := by decide +kernel
theorem dX6_day_49 : decode cX6_day 49 = .ok (.iload_n 1, 1) := by decide +kernel
theorem dX6_day_50 : decode cX6_day 50 = .ok (.iaload, 1) := by decide +kernel
theorem dX6_day_51 : decode cX6_day 51 = .ok (.ireturn, 1) := by decide +kernel
theorem dX6_idle_0 : decode cX6_idle 0 = .ok (.iload_n 1, 1) := by decide +kernel
theorem dX6_idle_1 : decode cX6_idle 1 = .ok (.ifCond .ge 7, 3) := by decide +kernel
theorem dX6_idle_4 : decode cX6_idle 4 = .ok (.iconst (-1), 1) := by decide +kernel
theorem dX6_idle_5 : decode cX6_idle 5 = .ok (.goto 11, 3) := by decide +kernel
theorem dX6_idle_8 : decode cX6_idle 8 = .ok (.aload_n 0, 1) := by decide +kernel
theorem dX6_idle_9 : decode cX6_idle 9 = .ok (.invokevirtual 160, 3) := by decide +kernel
theorem dX6_idle_12 : decode cX6_idle 12 = .ok (.iload_n 1, 1) := by decide +kernel
theorem dX6_idle_13 : decode cX6_idle 13 = .ok (.invokevirtual 196, 3) := by decide +kernel
theorem dX6_idle_16 : decode cX6_idle 16 = .ok (.ireturn, 1) := by decide +kernel
theorem dX6_pairs_0 : decode cX6_pairs 0 = .ok (.aload_n 0, 1) := by decide +kernel
theorem dX6_pairs_1 : decode cX6_pairs 1 = .ok (.getfield 18, 3) := by decide +kernel
theorem dX6_pairs_4 : decode cX6_pairs 4 = .ok (.getfield 98, 3) := by decide +kernel
theorem dX6_pairs_7 : decode cX6_pairs 7 = .ok (.aload_n 0, 1) := by decide +kernel
theorem dX6_pairs_8 : decode cX6_pairs 8 = .ok (.invokevirtual 160, 3) := by decide +kernel
theorem dX6_pairs_11 : decode cX6_pairs 11 = .ok (.getfield 187, 3) := by decide +kernel
theorem dX6_pairs_14 : decode cX6_pairs 14 = .ok (.isub, 1) := by decide +kernel
theorem dX6_pairs_15 : decode cX6_pairs 15 = .ok (.ireturn, 1) := by decide +kernel
theorem dX6_rest_0 : decode cX6_rest 0 = .ok (.iload_n 1, 1) := by decide +kernel
theorem dX6_rest_1 : decode cX6_rest 1 = .ok (.ifCond .ge 5, 3) := by decide +kernel
theorem dX6_rest_4 : decode cX6_rest 4 = .ok (.iconst (-1), 1) := by decide +kernel
theorem dX6_rest_5 : decode cX6_rest 5 = .ok (.ireturn, 1) := by decide +kernel
theorem dX6_rest_6 : decode cX6_rest 6 = .ok (.iconst 0, 1) := by decide +kernel
theorem dX6_rest_7 : decode cX6_rest 7 = .ok (.aload_n 0, 1) := by decide +kernel
theorem dX6_rest_8 : decode cX6_rest 8 = .ok (.invokevirtual 160, 3) := by decide +kernel
theorem dX6_rest_11 : decode cX6_rest 11 = .ok (.getfield 187, 3) := by decide +kernel
theorem dX6_rest_14 : decode cX6_rest 14 = .ok (.iload_n 1, 1) := by decide +kernel
theorem dX6_rest_15 : decode cX6_rest 15 = .ok (.isub, 1) := by decide +kernel
theorem dX6_rest_16 : decode cX6_rest 16 = .ok (.invokestatic 199, 3) := by decide +kernel
theorem dX6_rest_19 : decode cX6_rest 19 = .ok (.ireturn, 1) := by decide +kernel
theorem dX6_kept_0 : decode cX6_kept 0 = .ok (.aload_n 0, 1) := by decide +kernel
theorem dX6_kept_1 : decode cX6_kept 1 = .ok (.invokevirtual 170, 3) := by decide +kernel
theorem dX6_kept_4 : decode cX6_kept 4 = .ok (.getfield 204, 3) := by decide +kernel
theorem dX6_kept_7 : decode cX6_kept 7 = .ok (.ireturn, 1) := by decide +kernel
theorem dX6_code_0 : decode cX6_code 0 = .ok (.iload_n 1, 1) := by decide +kernel
theorem dX6_code_1 : decode cX6_code 1 = .ok (.iconst 1, 1) := by decide +kernel
theorem dX6_code_2 : decode cX6_code 2 = .ok (.if_icmp .ge 5, 3) := by decide +kernel
theorem dX6_code_5 : decode cX6_code 5 = .ok (.iconst (-1), 1) := by decide +kernel
theorem dX6_code_6 : decode cX6_code 6 = .ok (.ireturn, 1) := by decide +kernel
theorem dX6_code_7 : decode cX6_code 7 = .ok (.aload_n 0, 1) := by decide +kernel
theorem dX6_code_8 : decode cX6_code 8 = .ok (.invokevirtual 170, 3) := by decide +kernel
theorem dX6_code_11 : decode cX6_code 11 = .ok (.astore_n 2, 1) := by decide +kernel
theorem dX6_code_12 : decode cX6_code 12 = .ok (.iload_n 1, 1) := by decide +kernel
theorem dX6_code_13 : decode cX6_code 13 = .ok (.aload_n 2, 1) := by decide +kernel
theorem dX6_code_14 : decode cX6_code 14 = .ok (.getfield 204, 3) := by decide +kernel
theorem dX6_code_17 : decode cX6_code 17 = .ok (.if_icmp .gt 12, 3) := by decide +kernel
theorem dX6_code_20 : decode cX6_code 20 = .ok (.aload_n 2, 1) := by decide +kernel
theorem dX6_code_21 : decode cX6_code 21 = .ok (.getfield 205, 3) := by decide +kernel
theorem dX6_code_24 : decode cX6_code 24 = .ok (.iload_n 1, 1) := by decide +kernel
theorem dX6_code_25 : decode cX6_code 25 = .ok (.iaload, 1) := by decide +kernel
theorem dX6_code_26 : decode cX6_code 26 = .ok (.goto 5, 3) := by decide +kernel
theorem dX6_code_29 : decode cX6_code 29 = .ok (.bipush (-3), 2) := by decide +kernel
theorem dX6_code_31 : decode cX6_code 31 = .ok (.ireturn, 1) := by decide +kernel
theorem dX6_check_0 : decode cX6_check 0 = .ok (.aload_n 0, 1) := by decide +kernel
theorem dX6_check_1 : decode cX6_check 1 = .ok (.lload_n 1, 1) := by decide +kernel
theorem dX6_check_2 : decode cX6_check 2 = .ok (.invokevirtual 208, 3) := by decide +kernel
theorem dX6_check_5 : decode cX6_check 5 = .ok (.ifCond .ne 5, 3) := by decide +kernel
theorem dX6_check_8 : decode cX6_check 8 = .ok (.iconst 0, 1) := by decide +kernel
theorem dX6_check_9 : decode cX6_check 9 = .ok (.ireturn, 1) := by decide +kernel
theorem dX6_check_10 : decode cX6_check 10 = .ok (.aload_n 0, 1) := by decide +kernel
theorem dX6_check_11 : decode cX6_check 11 = .ok (.lload_n 1, 1) := by decide +kernel
theorem dX6_check_12 : decode cX6_check 12 = .ok (.invokevirtual 212, 3) := by decide +kernel
theorem dX6_check_15 : decode cX6_check 15 = .ok (.ifCond .eq 7, 3) := by decide +kernel
theorem dX6_check_18 : decode cX6_check 18 = .ok (.iconst 2, 1) := by decide +kernel
theorem dX6_check_19 : decode cX6_check 19 = .ok (.goto 4, 3) := by decide +kernel
theorem dX6_check_22 : decode cX6_check 22 = .ok (.iconst 1, 1) := by decide +kernel
theorem dX6_check_23 : decode cX6_check 23 = .ok (.ireturn, 1) := by decide +kernel
theorem dX6_count_0 : decode cX6_count 0 = .ok (.iload_n 1, 1) := by decide +kernel
theorem dX6_count_1 : decode cX6_count 1 = .ok (.tableswitch 75 0 4 #[35, 43, 51, 59, 67], 35) := by decide +kernel
theorem dX6_count_36 : decode cX6_count 36 = .ok (.aload_n 0, 1) := by decide +kernel
theorem dX6_count_37 : decode cX6_count 37 = .ok (.getfield 18, 3) := by decide +kernel
theorem dX6_count_40 : decode cX6_count 40 = .ok (.getfield 98, 3) := by decide +kernel
theorem dX6_count_43 : decode cX6_count 43 = .ok (.ireturn, 1) := by decide +kernel
theorem dX6_count_44 : decode cX6_count 44 = .ok (.aload_n 0, 1) := by decide +kernel
theorem dX6_count_45 : decode cX6_count 45 = .ok (.getfield 18, 3) := by decide +kernel
theorem dX6_count_48 : decode cX6_count 48 = .ok (.invokevirtual 215, 3) := by decide +kernel
theorem dX6_count_51 : decode cX6_count 51 = .ok (.ireturn, 1) := by decide +kernel
theorem dX6_count_52 : decode cX6_count 52 = .ok (.aload_n 0, 1) := by decide +kernel
theorem dX6_count_53 : decode cX6_count 53 = .ok (.getfield 18, 3) := by decide +kernel
theorem dX6_count_56 : decode cX6_count 56 = .ok (.getfield 219, 3) := by decide +kernel
theorem dX6_count_59 : decode cX6_count 59 = .ok (.ireturn, 1) := by decide +kernel
theorem dX6_count_60 : decode cX6_count 60 = .ok (.aload_n 0, 1) := by decide +kernel
theorem dX6_count_61 : decode cX6_count 61 = .ok (.invokevirtual 160, 3) := by decide +kernel
theorem dX6_count_64 : decode cX6_count 64 = .ok (.invokevirtual 222, 3) := by decide +kernel
theorem dX6_count_67 : decode cX6_count 67 = .ok (.ireturn, 1) := by decide +kernel
theorem dX6_count_68 : decode cX6_count 68 = .ok (.aload_n 0, 1) := by decide +kernel
theorem dX6_count_69 : decode cX6_count 69 = .ok (.invokevirtual 144, 3) := by decide +kernel
theorem dX6_count_72 : decode cX6_count 72 = .ok (.getfield 225, 3) := by decide +kernel
theorem dX6_count_75 : decode cX6_count 75 = .ok (.ireturn, 1) := by decide +kernel
theorem dX6_count_76 : decode cX6_count 76 = .ok (.iconst (-1), 1) := by decide +kernel
theorem dX6_count_77 : decode cX6_count 77 = .ok (.ireturn, 1) := by decide +kernel
theorem dX6_isDay_0 : decode cX6_isDay 0 = .ok (.iconst 0, 1) := by decide +kernel
theorem dX6_isDay_1 : decode cX6_isDay 1 = .ok (.istore_n 3, 1) := by decide +kernel
theorem dX6_isDay_2 : decode cX6_isDay 2 = .ok (.iload_n 3, 1) := by decide +kernel
theorem dX6_isDay_3 : decode cX6_isDay 3 = .ok (.aload_n 0, 1) := by decide +kernel
theorem dX6_isDay_4 : decode cX6_isDay 4 = .ok (.getfield 18, 3) := by decide +kernel
theorem dX6_isDay_7 : decode cX6_isDay 7 = .ok (.getfield 98, 3) := by decide +kernel
theorem dX6_isDay_10 : decode cX6_isDay 10 = .ok (.if_icmp .ge 99, 3) := by decide +kernel
theorem dX6_isDay_13 : decode cX6_isDay 13 = .ok (.lload_n 1, 1) := by decide +kernel
theorem dX6_isDay_14 : decode cX6_isDay 14 = .ok (.iload_n 3, 1) := by decide +kernel
theorem dX6_isDay_15 : decode cX6_isDay 15 = .ok (.invokestatic 228, 3) := by decide +kernel
theorem dX6_isDay_18 : decode cX6_isDay 18 = .ok (.istore 4, 2) := by decide +kernel
theorem dX6_isDay_20 : decode cX6_isDay 20 = .ok (.iload 4, 2) := by decide +kernel
theorem dX6_isDay_22 : decode cX6_isDay 22 = .ok (.ifCond .ne 5, 3) := by decide +kernel
theorem dX6_isDay_25 : decode cX6_isDay 25 = .ok (.iconst 0, 1) := by decide +kernel
theorem dX6_isDay_26 : decode cX6_isDay 26 = .ok (.ireturn, 1) := by decide +kernel
theorem dX6_isDay_27 : decode cX6_isDay 27 = .ok (.iconst 0, 1) := by decide +kernel
theorem dX6_isDay_28 : decode cX6_isDay 28 = .ok (.istore 5, 2) := by decide +kernel
theorem dX6_isDay_30 : decode cX6_isDay 30 = .ok (.iconst 0, 1) := by decide +kernel
theorem dX6_isDay_31 : decode cX6_isDay 31 = .ok (.istore 6, 2) := by decide +kernel
theorem dX6_isDay_33 : decode cX6_isDay 33 = .ok (.iload 6, 2) := by decide +kernel
theorem dX6_isDay_35 : decode cX6_isDay 35 = .ok (.aload_n 0, 1) := by decide +kernel
theorem dX6_isDay_36 : decode cX6_isDay 36 = .ok (.getfield 18, 3) := by decide +kernel
theorem dX6_isDay_39 : decode cX6_isDay 39 = .ok (.getfield 98, 3) := by decide +kernel
theorem dX6_isDay_42 : decode cX6_isDay 42 = .ok (.if_icmp .ge 53, 3) := by decide +kernel
theorem dX6_isDay_45 : decode cX6_isDay 45 = .ok (.lload_n 1, 1) := by decide +kernel
theorem dX6_isDay_46 : decode cX6_isDay 46 = .ok (.iload 6, 2) := by decide +kernel
theorem dX6_isDay_48 : decode cX6_isDay 48 = .ok (.invokestatic 228, 3) := by decide +kernel
theorem dX6_isDay_51 : decode cX6_isDay 51 = .ok (.istore 7, 2) := by decide +kernel
theorem dX6_isDay_53 : decode cX6_isDay 53 = .ok (.iload 7, 2) := by decide +kernel
theorem dX6_isDay_55 : decode cX6_isDay 55 = .ok (.iload 4, 2) := by decide +kernel
theorem dX6_isDay_57 : decode cX6_isDay 57 = .ok (.if_icmp .ne 6, 3) := by decide +kernel
theorem dX6_isDay_60 : decode cX6_isDay 60 = .ok (.iinc 5 1, 3) := by decide +kernel
theorem dX6_isDay_63 : decode cX6_isDay 63 = .ok (.aload_n 0, 1) := by decide +kernel
theorem dX6_isDay_64 : decode cX6_isDay 64 = .ok (.getfield 18, 3) := by decide +kernel
theorem dX6_isDay_67 : decode cX6_isDay 67 = .ok (.getfield 141, 3) := by decide +kernel
theorem dX6_isDay_70 : decode cX6_isDay 70 = .ok (.iload_n 3, 1) := by decide +kernel
theorem dX6_isDay_71 : decode cX6_isDay 71 = .ok (.iaload, 1) := by decide +kernel
theorem dX6_isDay_72 : decode cX6_isDay 72 = .ok (.iload 6, 2) := by decide +kernel
theorem dX6_isDay_74 : decode cX6_isDay 74 = .ok (.invokestatic 181, 3) := by decide +kernel
theorem dX6_isDay_77 : decode cX6_isDay 77 = .ok (.ifCond .eq 12, 3) := by decide +kernel
theorem dX6_isDay_80 : decode cX6_isDay 80 = .ok (.iload 7, 2) := by decide +kernel
theorem dX6_isDay_82 : decode cX6_isDay 82 = .ok (.iload 4, 2) := by decide +kernel
theorem dX6_isDay_84 : decode cX6_isDay 84 = .ok (.if_icmp .lt 5, 3) := by decide +kernel
theorem dX6_isDay_87 : decode cX6_isDay 87 = .ok (.iconst 0, 1) := by decide +kernel
theorem dX6_isDay_88 : decode cX6_isDay 88 = .ok (.ireturn, 1) := by decide +kernel
theorem dX6_isDay_89 : decode cX6_isDay 89 = .ok (.iinc 6 1, 3) := by decide +kernel
theorem dX6_isDay_92 : decode cX6_isDay 92 = .ok (.goto (-59), 3) := by decide +kernel
theorem dX6_isDay_95 : decode cX6_isDay 95 = .ok (.iload 5, 2) := by decide +kernel
theorem dX6_isDay_97 : decode cX6_isDay 97 = .ok (.iconst 2, 1) := by decide +kernel
theorem dX6_isDay_98 : decode cX6_isDay 98 = .ok (.if_icmp .le 5, 3) := by decide +kernel
theorem dX6_isDay_101 : decode cX6_isDay 101 = .ok (.iconst 0, 1) := by decide +kernel
theorem dX6_isDay_102 : decode cX6_isDay 102 = .ok (.ireturn, 1) := by decide +kernel
theorem dX6_isDay_103 : decode cX6_isDay 103 = .ok (.iinc 3 1, 3) := by decide +kernel
theorem dX6_isDay_106 : decode cX6_isDay 106 = .ok (.goto (-104), 3) := by decide +kernel
theorem dX6_isDay_109 : decode cX6_isDay 109 = .ok (.iconst 1, 1) := by decide +kernel
theorem dX6_isDay_110 : decode cX6_isDay 110 = .ok (.ireturn, 1) := by decide +kernel
theorem dX6_keepsToKinds_0 : decode cX6_keepsToKinds 0 = .ok (.iconst 0, 1) := by decide +kernel
theorem dX6_keepsToKinds_1 : decode cX6_keepsToKinds 1 = .ok (.istore_n 3, 1) := by decide +kernel
theorem dX6_keepsToKinds_2 : decode cX6_keepsToKinds 2 = .ok (.iload_n 3, 1) := by decide +kernel
theorem dX6_keepsToKinds_3 : decode cX6_keepsToKinds 3 = .ok (.aload_n 0, 1) := by decide +kernel
theorem dX6_keepsToKinds_4 : decode cX6_keepsToKinds 4 = .ok (.getfield 18, 3) := by decide +kernel
theorem dX6_keepsToKinds_7 : decode cX6_keepsToKinds 7 = .ok (.getfield 98, 3) := by decide +kernel
theorem dX6_keepsToKinds_10 : decode cX6_keepsToKinds 10 = .ok (.if_icmp .ge 87, 3) := by decide +kernel
theorem dX6_keepsToKinds_13 : decode cX6_keepsToKinds 13 = .ok (.lload_n 1, 1) := by decide +kernel
theorem dX6_keepsToKinds_14 : decode cX6_keepsToKinds 14 = .ok (.iload_n 3, 1) := by decide +kernel
theorem dX6_keepsToKinds_15 : decode cX6_keepsToKinds 15 = .ok (.invokestatic 228, 3) := by decide +kernel
theorem dX6_keepsToKinds_18 : decode cX6_keepsToKinds 18 = .ok (.istore 4, 2) := by decide +kernel
theorem dX6_keepsToKinds_20 : decode cX6_keepsToKinds 20 = .ok (.iload 4, 2) := by decide +kernel
theorem dX6_keepsToKinds_22 : decode cX6_keepsToKinds 22 = .ok (.aload_n 0, 1) := by decide +kernel
theorem dX6_keepsToKinds_23 : decode cX6_keepsToKinds 23 = .ok (.getfield 18, 3) := by decide +kernel
theorem dX6_keepsToKinds_26 : decode cX6_keepsToKinds 26 = .ok (.getfield 232, 3) := by decide +kernel
theorem dX6_keepsToKinds_29 : decode cX6_keepsToKinds 29 = .ok (.iload_n 3, 1) := by decide +kernel
theorem dX6_keepsToKinds_30 : decode cX6_keepsToKinds 30 = .ok (.iaload, 1) := by decide +kernel
theorem dX6_keepsToKinds_31 : decode cX6_keepsToKinds 31 = .ok (.if_icmp .lt 17, 3) := by decide +kernel
theorem dX6_keepsToKinds_34 : decode cX6_keepsToKinds 34 = .ok (.iload 4, 2) := by decide +kernel
theorem dX6_keepsToKinds_36 : decode cX6_keepsToKinds 36 = .ok (.aload_n 0, 1) := by decide +kernel
theorem dX6_keepsToKinds_37 : decode cX6_keepsToKinds 37 = .ok (.getfield 18, 3) := by decide +kernel
theorem dX6_keepsToKinds_40 : decode cX6_keepsToKinds 40 = .ok (.getfield 235, 3) := by decide +kernel
theorem dX6_keepsToKinds_43 : decode cX6_keepsToKinds 43 = .ok (.iload_n 3, 1) := by decide +kernel
theorem dX6_keepsToKinds_44 : decode cX6_keepsToKinds 44 = .ok (.iaload, 1) := by decide +kernel
theorem dX6_keepsToKinds_45 : decode cX6_keepsToKinds 45 = .ok (.if_icmp .le 5, 3) := by decide +kernel
theorem dX6_keepsToKinds_48 : decode cX6_keepsToKinds 48 = .ok (.iconst 0, 1) := by decide +kernel
theorem dX6_keepsToKinds_49 : decode cX6_keepsToKinds 49 = .ok (.ireturn, 1) := by decide +kernel
theorem dX6_keepsToKinds_50 : decode cX6_keepsToKinds 50 = .ok (.iconst 0, 1) := by decide +kernel
theorem dX6_keepsToKinds_51 : decode cX6_keepsToKinds 51 = .ok (.istore 5, 2) := by decide +kernel
theorem dX6_keepsToKinds_53 : decode cX6_keepsToKinds 53 = .ok (.iload 5, 2) := by decide +kernel
theorem dX6_keepsToKinds_55 : decode cX6_keepsToKinds 55 = .ok (.iload_n 3, 1) := by decide +kernel
theorem dX6_keepsToKinds_56 : decode cX6_keepsToKinds 56 = .ok (.if_icmp .ge 35, 3) := by decide +kernel
theorem dX6_keepsToKinds_59 : decode cX6_keepsToKinds 59 = .ok (.lload_n 1, 1) := by decide +kernel
theorem dX6_keepsToKinds_60 : decode cX6_keepsToKinds 60 = .ok (.iload 5, 2) := by decide +kernel
theorem dX6_keepsToKinds_62 : decode cX6_keepsToKinds 62 = .ok (.invokestatic 228, 3) := by decide +kernel
theorem dX6_keepsToKinds_65 : decode cX6_keepsToKinds 65 = .ok (.iload 4, 2) := by decide +kernel
theorem dX6_keepsToKinds_67 : decode cX6_keepsToKinds 67 = .ok (.if_icmp .ne 18, 3) := by decide +kernel
theorem dX6_keepsToKinds_70 : decode cX6_keepsToKinds 70 = .ok (.aload_n 0, 1) := by decide +kernel
theorem dX6_keepsToKinds_71 : decode cX6_keepsToKinds 71 = .ok (.getfield 18, 3) := by decide +kernel
theorem dX6_keepsToKinds_74 : decode cX6_keepsToKinds 74 = .ok (.iload_n 3, 1) := by decide +kernel
theorem dX6_keepsToKinds_75 : decode cX6_keepsToKinds 75 = .ok (.iload 5, 2) := by decide +kernel
theorem dX6_keepsToKinds_77 : decode cX6_keepsToKinds 77 = .ok (.invokevirtual 238, 3) := by decide +kernel
theorem dX6_keepsToKinds_80 : decode cX6_keepsToKinds 80 = .ok (.ifCond .eq 5, 3) := by decide +kernel
theorem dX6_keepsToKinds_83 : decode cX6_keepsToKinds 83 = .ok (.iconst 0, 1) := by decide +kernel
theorem dX6_keepsToKinds_84 : decode cX6_keepsToKinds 84 = .ok (.ireturn, 1) := by decide +kernel
theorem dX6_keepsToKinds_85 : decode cX6_keepsToKinds 85 = .ok (.iinc 5 1, 3) := by decide +kernel
theorem dX6_keepsToKinds_88 : decode cX6_keepsToKinds 88 = .ok (.goto (-35), 3) := by decide +kernel
theorem dX6_keepsToKinds_91 : decode cX6_keepsToKinds 91 = .ok (.iinc 3 1, 3) := by decide +kernel
theorem dX6_keepsToKinds_94 : decode cX6_keepsToKinds 94 = .ok (.goto (-92), 3) := by decide +kernel
theorem dX6_keepsToKinds_97 : decode cX6_keepsToKinds 97 = .ok (.iconst 1, 1) := by decide +kernel
theorem dX6_keepsToKinds_98 : decode cX6_keepsToKinds 98 = .ok (.ireturn, 1) := by decide +kernel
theorem dX6_hourIn_0 : decode cX6_hourIn 0 = .ok (.lload_n 0, 1) := by decide +kernel
theorem dX6_hourIn_1 : decode cX6_hourIn 1 = .ok (.bipush 6, 2) := by decide +kernel
theorem dX6_hourIn_3 : decode cX6_hourIn 3 = .ok (.iload_n 2, 1) := by decide +kernel
theorem dX6_hourIn_4 : decode cX6_hourIn 4 = .ok (.imul, 1) := by decide +kernel
theorem dX6_hourIn_5 : decode cX6_hourIn 5 = .ok (.lushr, 1) := by decide +kernel
theorem dX6_hourIn_6 : decode cX6_hourIn 6 = .ok (.l2i, 1) := by decide +kernel
theorem dX6_hourIn_7 : decode cX6_hourIn 7 = .ok (.bipush 63, 2) := by decide +kernel
theorem dX6_hourIn_9 : decode cX6_hourIn 9 = .ok (.iand, 1) := by decide +kernel
theorem dX6_hourIn_10 : decode cX6_hourIn 10 = .ok (.ireturn, 1) := by decide +kernel
theorem dX6_orderNow_0 : decode cX6_orderNow 0 = .ok (.aload_n 0, 1) := by decide +kernel
theorem dX6_orderNow_1 : decode cX6_orderNow 1 = .ok (.getfield 27, 3) := by decide +kernel
theorem dX6_orderNow_4 : decode cX6_orderNow 4 = .ok (.invokevirtual 241, 3) := by decide +kernel
theorem dX6_orderNow_7 : decode cX6_orderNow 7 = .ok (.aload_n 0, 1) := by decide +kernel
theorem dX6_orderNow_8 : decode cX6_orderNow 8 = .ok (.getfield 27, 3) := by decide +kernel
theorem dX6_orderNow_11 : decode cX6_orderNow 11 = .ok (.areturn, 1) := by decide +kernel
theorem dX6_labelDayNow_0 : decode cX6_labelDayNow 0 = .ok (.aload_n 0, 1) := by decide +kernel
theorem dX6_labelDayNow_1 : decode cX6_labelDayNow 1 = .ok (.getfield 36, 3) := by decide +kernel
theorem dX6_labelDayNow_4 : decode cX6_labelDayNow 4 = .ok (.invokevirtual 244, 3) := by decide +kernel
theorem dX6_labelDayNow_7 : decode cX6_labelDayNow 7 = .ok (.aload_n 0, 1) := by decide +kernel
theorem dX6_labelDayNow_8 : decode cX6_labelDayNow 8 = .ok (.getfield 36, 3) := by decide +kernel
theorem dX6_labelDayNow_11 : decode cX6_labelDayNow 11 = .ok (.areturn, 1) := by decide +kernel
theorem dX6_keptDayNow_0 : decode cX6_keptDayNow 0 = .ok (.aload_n 0, 1) := by decide +kernel
theorem dX6_keptDayNow_1 : decode cX6_keptDayNow 1 = .ok (.getfield 43, 3) := by decide +kernel
theorem dX6_keptDayNow_4 : decode cX6_keptDayNow 4 = .ok (.invokevirtual 245, 3) := by decide +kernel
theorem dX6_keptDayNow_7 : decode cX6_keptDayNow 7 = .ok (.aload_n 0, 1) := by decide +kernel
theorem dX6_keptDayNow_8 : decode cX6_keptDayNow 8 = .ok (.getfield 43, 3) := by decide +kernel
theorem dX6_keptDayNow_11 : decode cX6_keptDayNow 11 = .ok (.areturn, 1) := by decide +kernel
theorem dX6_bit_0 : decode cX6_bit 0 = .ok (.iconst 1, 1) := by decide +kernel
theorem dX6_bit_1 : decode cX6_bit 1 = .ok (.iload_n 0, 1) := by decide +kernel
theorem dX6_bit_2 : decode cX6_bit 2 = .ok (.ishl, 1) := by decide +kernel
theorem dX6_bit_3 : decode cX6_bit 3 = .ok (.ireturn, 1) := by decide +kernel
theorem dX6_holds_0 : decode cX6_holds 0 = .ok (.iload_n 0, 1) := by decide +kernel
theorem dX6_holds_1 : decode cX6_holds 1 = .ok (.iconst 1, 1) := by decide +kernel
theorem dX6_holds_2 : decode cX6_holds 2 = .ok (.iload_n 1, 1) := by decide +kernel
theorem dX6_holds_3 : decode cX6_holds 3 = .ok (.ishl, 1) := by decide +kernel
theorem dX6_holds_4 : decode cX6_holds 4 = .ok (.iand, 1) := by decide +kernel
theorem dX6_holds_5 : decode cX6_holds 5 = .ok (.ifCond .eq 7, 3) := by decide +kernel
theorem dX6_holds_8 : decode cX6_holds 8 = .ok (.iconst 1, 1) := by decide +kernel
theorem dX6_holds_9 : decode cX6_holds 9 = .ok (.goto 4, 3) := by decide +kernel
theorem dX6_holds_12 : decode cX6_holds 12 = .ok (.iconst 0, 1) := by decide +kernel
theorem dX6_holds_13 : decode cX6_holds 13 = .ok (.ireturn, 1) := by decide +kernel
theorem dX7_init_0 : decode cX7_init 0 = .ok (.aload_n 0, 1) := by decide +kernel
theorem dX7_init_1 : decode cX7_init 1 = .ok (.invokespecial 1, 3) := by decide +kernel
theorem dX7_init_4 : decode cX7_init 4 = .ok (.aload_n 0, 1) := by decide +kernel
theorem dX7_init_5 : decode cX7_init 5 = .ok (.bipush 6, 2) := by decide +kernel
theorem dX7_init_7 : decode cX7_init 7 = .ok (.newarray .int, 2) := by decide +kernel
theorem dX7_init_9 : decode cX7_init 9 = .ok (.putfield 7, 3) := by decide +kernel
theorem dX7_init_12 : decode cX7_init 12 = .ok (.aload_n 0, 1) := by decide +kernel
theorem dX7_init_13 : decode cX7_init 13 = .ok (.bipush 6, 2) := by decide +kernel
theorem dX7_init_15 : decode cX7_init 15 = .ok (.newarray .int, 2) := by decide +kernel
theorem dX7_init_17 : decode cX7_init 17 = .ok (.putfield 13, 3) := by decide +kernel
theorem dX7_init_20 : decode cX7_init 20 = .ok (.aload_n 0, 1) := by decide +kernel
theorem dX7_init_21 : decode cX7_init 21 = .ok (.bipush 96, 2) := by decide +kernel
theorem dX7_init_23 : decode cX7_init 23 = .ok (.newarray .int, 2) := by decide +kernel
theorem dX7_init_25 : decode cX7_init 25 = .ok (.putfield 16, 3) := by decide +kernel
theorem dX7_init_28 : decode cX7_init 28 = .ok (.aload_n 0, 1) := by decide +kernel
theorem dX7_init_29 : decode cX7_init 29 = .ok (.bipush 10, 2) := by decide +kernel
theorem dX7_init_31 : decode cX7_init 31 = .ok (.newarray .int, 2) := by decide +kernel
theorem dX7_init_33 : decode cX7_init 33 = .ok (.putfield 19, 3) := by decide +kernel
theorem dX7_init_36 : decode cX7_init 36 = .ok (.aload_n 0, 1) := by decide +kernel
theorem dX7_init_37 : decode cX7_init 37 = .ok (.bipush 10, 2) := by decide +kernel
theorem dX7_init_39 : decode cX7_init 39 = .ok (.newarray .int, 2) := by decide +kernel
theorem dX7_init_41 : decode cX7_init 41 = .ok (.putfield 22, 3) := by decide +kernel
theorem dX7_init_44 : decode cX7_init 44 = .ok (.aload_n 0, 1) := by decide +kernel
theorem dX7_init_45 : decode cX7_init 45 = .ok (.bipush 10, 2) := by decide +kernel
theorem dX7_init_47 : decode cX7_init 47 = .ok (.newarray .int, 2) := by decide +kernel
theorem dX7_init_49 : decode cX7_init 49 = .ok (.putfield 25, 3) := by decide +kernel
theorem dX7_init_52 : decode cX7_init 52 = .ok (.aload_n 0, 1) := by decide +kernel
theorem dX7_init_53 : decode cX7_init 53 = .ok (.bipush 10, 2) := by decide +kernel
theorem dX7_init_55 : decode cX7_init 55 = .ok (.newarray .int, 2) := by decide +kernel
theorem dX7_init_57 : decode cX7_init 57 = .ok (.putfield 28, 3) := by decide +kernel
theorem dX7_init_60 : decode cX7_init 60 = .ok (.aload_n 0, 1) := by decide +kernel
theorem dX7_init_61 : decode cX7_init 61 = .ok (.bipush 10, 2) := by decide +kernel
theorem dX7_init_63 : decode cX7_init 63 = .ok (.newarray .int, 2) := by decide +kernel
theorem dX7_init_65 : decode cX7_init 65 = .ok (.putfield 31, 3) := by decide +kernel
theorem dX7_init_68 : decode cX7_init 68 = .ok (.aload_n 0, 1) := by decide +kernel
theorem dX7_init_69 : decode cX7_init 69 = .ok (.sipush 1020, 3) := by decide +kernel
theorem dX7_init_72 : decode cX7_init 72 = .ok (.newarray .int, 2) := by decide +kernel
theorem dX7_init_74 : decode cX7_init 74 = .ok (.putfield 34, 3) := by decide +kernel
theorem dX7_init_77 : decode cX7_init 77 = .ok (.aload_n 0, 1) := by decide +kernel
theorem dX7_init_78 : decode cX7_init 78 = .ok (.bipush 10, 2) := by decide +kernel
theorem dX7_init_80 : decode cX7_init 80 = .ok (.newarray .int, 2) := by decide +kernel
theorem dX7_init_82 : decode cX7_init 82 = .ok (.putfield 37, 3) := by decide +kernel
theorem dX7_init_85 : decode cX7_init 85 = .ok (.aload_n 0, 1) := by decide +kernel
theorem dX7_init_86 : decode cX7_init 86 = .ok (.bipush 16, 2) := by decide +kernel
theorem dX7_init_88 : decode cX7_init 88 = .ok (.newarray .int, 2) := by decide +kernel
theorem dX7_init_90 : decode cX7_init 90 = .ok (.putfield 40, 3) := by decide +kernel
theorem dX7_init_93 : decode cX7_init 93 = .ok (.aload_n 0, 1) := by decide +kernel
theorem dX7_init_94 : decode cX7_init 94 = .ok (.bipush 10, 2) := by decide +kernel
theorem dX7_init_96 : decode cX7_init 96 = .ok (.newarray .int, 2) := by decide +kernel
theorem dX7_init_98 : decode cX7_init 98 = .ok (.putfield 43, 3) := by decide +kernel
theorem dX7_init_101 : decode cX7_init 101 = .ok (.aload_n 0, 1) := by decide +kernel
theorem dX7_init_102 : decode cX7_init 102 = .ok (.bipush 10, 2) := by decide +kernel
theorem dX7_init_104 : decode cX7_init 104 = .ok (.newarray .int, 2) := by decide +kernel
theorem dX7_init_106 : decode cX7_init 106 = .ok (.putfield 46, 3) := by decide +kernel
theorem dX7_init_109 : decode cX7_init 109 = .ok (.aload_n 0, 1) := by decide +kernel
theorem dX7_init_110 : decode cX7_init 110 = .ok (.bipush 10, 2) := by decide +kernel
theorem dX7_init_112 : decode cX7_init 112 = .ok (.newarray .int, 2) := by decide +kernel
theorem dX7_init_114 : decode cX7_init 114 = .ok (.putfield 49, 3) := by decide +kernel
theorem dX7_init_117 : decode cX7_init 117 = .ok (.aload_n 0, 1) := by decide +kernel
theorem dX7_init_118 : decode cX7_init 118 = .ok (.bipush 10, 2) := by decide +kernel
theorem dX7_init_120 : decode cX7_init 120 = .ok (.newarray .int, 2) := by decide +kernel
theorem dX7_init_122 : decode cX7_init 122 = .ok (.putfield 52, 3) := by decide +kernel
theorem dX7_init_125 : decode cX7_init 125 = .ok (.aload_n 0, 1) := by decide +kernel
theorem dX7_init_126 : decode cX7_init 126 = .ok (.bipush 10, 2) := by decide +kernel
theorem dX7_init_128 : decode cX7_init 128 = .ok (.newarray .int, 2) := by decide +kernel
theorem dX7_init_130 : decode cX7_init 130 = .ok (.putfield 55, 3) := by decide +kernel
theorem dX7_init_133 : decode cX7_init 133 = .ok (.aload_n 0, 1) := by decide +kernel
theorem dX7_init_134 : decode cX7_init 134 = .ok (.sipush 1024, 3) := by decide +kernel
theorem dX7_init_137 : decode cX7_init 137 = .ok (.newarray .int, 2) := by decide +kernel
theorem dX7_init_139 : decode cX7_init 139 = .ok (.putfield 58, 3) := by decide +kernel
theorem dX7_init_142 : decode cX7_init 142 = .ok (.aload_n 0, 1) := by decide +kernel
theorem dX7_init_143 : decode cX7_init 143 = .ok (.ldc 61, 2) := by decide +kernel
theorem dX7_init_145 : decode cX7_init 145 = .ok (.newarray .int, 2) := by decide +kernel
theorem dX7_init_147 : decode cX7_init 147 = .ok (.putfield 62, 3) := by decide +kernel
theorem dX7_init_150 : decode cX7_init 150 = .ok (.aload_n 0, 1) := by decide +kernel
theorem dX7_init_151 : decode cX7_init 151 = .ok (.bipush 61, 2) := by decide +kernel
theorem dX7_init_153 : decode cX7_init 153 = .ok (.newarray .int, 2) := by decide +kernel
theorem dX7_init_155 : decode cX7_init 155 = .ok (.putfield 65, 3) := by decide +kernel
theorem dX7_init_158 : decode cX7_init 158 = .ok (.aload_n 0, 1) := by decide +kernel
theorem dX7_init_159 : decode cX7_init 159 = .ok (.bipush 10, 2) := by decide +kernel
theorem dX7_init_161 : decode cX7_init 161 = .ok (.newarray .int, 2) := by decide +kernel
theorem dX7_init_163 : decode cX7_init 163 = .ok (.putfield 68, 3) := by decide +kernel
theorem dX7_init_166 : decode cX7_init 166 = .ok (.iconst 0, 1) := by decide +kernel
theorem dX7_init_167 : decode cX7_init 167 = .ok (.istore_n 1, 1) := by decide +kernel
theorem dX7_init_168 : decode cX7_init 168 = .ok (.iload_n 1, 1) := by decide +kernel
theorem dX7_init_169 : decode cX7_init 169 = .ok (.bipush 6, 2) := by decide +kernel
theorem dX7_init_171 : decode cX7_init 171 = .ok (.if_icmp .ge 16, 3) := by decide +kernel
theorem dX7_init_174 : decode cX7_init 174 = .ok (.aload_n 0, 1) := by decide +kernel
theorem dX7_init_175 : decode cX7_init 175 = .ok (.getfield 7, 3) := by decide +kernel
theorem dX7_init_178 : decode cX7_init 178 = .ok (.iload_n 1, 1) := by decide +kernel
theorem dX7_init_179 : decode cX7_init 179 = .ok (.iconst (-1), 1) := by decide +kernel
theorem dX7_init_180 : decode cX7_init 180 = .ok (.iastore, 1) := by decide +kernel
theorem dX7_init_181 : decode cX7_init 181 = .ok (.iinc 1 1, 3) := by decide +kernel
theorem dX7_init_184 : decode cX7_init 184 = .ok (.goto (-16), 3) := by decide +kernel
theorem dX7_init_187 : decode cX7_init 187 = .ok (.return_, 1) := by decide +kernel
theorem dX7_in_0 : decode cX7_in 0 = .ok (.lload_n 0, 1) := by decide +kernel
theorem dX7_in_1 : decode cX7_in 1 = .ok (.lload_n 2, 1) := by decide +kernel
theorem dX7_in_2 : decode cX7_in 2 = .ok (.lcmp, 1) := by decide +kernel
theorem dX7_in_3 : decode cX7_in 3 = .ok (.ifCond .lt 14, 3) := by decide +kernel
theorem dX7_in_6 : decode cX7_in 6 = .ok (.lload_n 0, 1) := by decide +kernel
theorem dX7_in_7 : decode cX7_in 7 = .ok (.lload 4, 2) := by decide +kernel
theorem dX7_in_9 : decode cX7_in 9 = .ok (.lcmp, 1) := by decide +kernel
theorem dX7_in_10 : decode cX7_in 10 = .ok (.ifCond .gt 7, 3) := by decide +kernel
theorem dX7_in_13 : decode cX7_in 13 = .ok (.iconst 1, 1) := by decide +kernel
theorem dX7_in_14 : decode cX7_in 14 = .ok (.goto 4, 3) := by decide +kernel
theorem dX7_in_17 : decode cX7_in 17 = .ok (.iconst 0, 1) := by decide +kernel
theorem dX7_in_18 : decode cX7_in 18 = .ok (.ireturn, 1) := by decide +kernel
theorem dX7_isSheet_0 : decode cX7_isSheet 0 = .ok (.iload_n 0, 1) := by decide +kernel
theorem dX7_isSheet_1 : decode cX7_isSheet 1 = .ok (.i2l, 1) := by decide +kernel
theorem dX7_isSheet_2 : decode cX7_isSheet 2 = .ok (.lconst 0, 1) := by decide +kernel
theorem dX7_isSheet_3 : decode cX7_isSheet 3 = .ok (.ldc2_w 71, 3) := by decide +kernel
theorem dX7_isSheet_6 : decode cX7_isSheet 6 = .ok (.invokestatic 73, 3) := by decide +kernel
theorem dX7_isSheet_9 : decode cX7_isSheet 9 = .ok (.ireturn, 1) := by decide +kernel
theorem dX7_sheet_0 : decode cX7_sheet 0 = .ok (.iload_n 1, 1) := by decide +kernel
theorem dX7_sheet_1 : decode cX7_sheet 1 = .ok (.invokestatic 77, 3) := by decide +kernel
theorem dX7_sheet_4 : decode cX7_sheet 4 = .ok (.ifCond .eq 27, 3) := by decide +kernel
theorem dX7_sheet_7 : decode cX7_sheet 7 = .ok (.iload_n 2, 1) := by decide +kernel
theorem dX7_sheet_8 : decode cX7_sheet 8 = .ok (.i2l, 1) := by decide +kernel
theorem dX7_sheet_9 : decode cX7_sheet 9 = .ok (.ldc2_w 81, 3) := by decide +kernel
theorem dX7_sheet_12 : decode cX7_sheet 12 = .ok (.ldc2_w 83, 3) := by decide +kernel
theorem dX7_sheet_15 : decode cX7_sheet 15 = .ok (.invokestatic 73, 3) := by decide +kernel
theorem dX7_sheet_18 : decode cX7_sheet 18 = .ok (.ifCond .eq 13, 3) := by decide +kernel
theorem dX7_sheet_21 : decode cX7_sheet 21 = .ok (.iload_n 2, 1) := by decide +kernel
theorem dX7_sheet_22 : decode cX7_sheet 22 = .ok (.ifCond .lt 11, 3) := by decide +kernel
theorem dX7_sheet_25 : decode cX7_sheet 25 = .ok (.iload_n 3, 1) := by decide +kernel
theorem dX7_sheet_26 : decode cX7_sheet 26 = .ok (.bipush 16, 2) := by decide +kernel
theorem dX7_sheet_28 : decode cX7_sheet 28 = .ok (.if_icmp .le 5, 3) := by decide +kernel
theorem dX7_sheet_31 : decode cX7_sheet 31 = .ok (.iconst (-1), 1) := by decide +kernel
theorem dX7_sheet_32 : decode cX7_sheet 32 = .ok (.ireturn, 1) := by decide +kernel
theorem dX7_sheet_33 : decode cX7_sheet 33 = .ok (.iload_n 2, 1) := by decide +kernel
theorem dX7_sheet_34 : decode cX7_sheet 34 = .ok (.ifCond .lt 10, 3) := by decide +kernel
theorem dX7_sheet_37 : decode cX7_sheet 37 = .ok (.iload_n 3, 1) := by decide +kernel
theorem dX7_sheet_38 : decode cX7_sheet 38 = .ok (.ifCond .ge 6, 3) := by decide +kernel
theorem dX7_sheet_41 : decode cX7_sheet 41 = .ok (.bipush (-13), 2) := by decide +kernel
theorem dX7_sheet_43 : decode cX7_sheet 43 = .ok (.ireturn, 1) := by decide +kernel
theorem dX7_sheet_44 : decode cX7_sheet 44 = .ok (.aload_n 0, 1) := by decide +kernel
theorem dX7_sheet_45 : decode cX7_sheet 45 = .ok (.getfield 7, 3) := by decide +kernel
theorem dX7_sheet_48 : decode cX7_sheet 48 = .ok (.iload_n 1, 1) := by decide +kernel
theorem dX7_sheet_49 : decode cX7_sheet 49 = .ok (.iload_n 2, 1) := by decide +kernel
theorem dX7_sheet_50 : decode cX7_sheet 50 = .ok (.iastore, 1) := by decide +kernel
theorem dX7_sheet_51 : decode cX7_sheet 51 = .ok (.aload_n 0, 1) := by decide +kernel
theorem dX7_sheet_52 : decode cX7_sheet 52 = .ok (.getfield 13, 3) := by decide +kernel
theorem dX7_sheet_55 : decode cX7_sheet 55 = .ok (.iload_n 1, 1) := by decide +kernel
theorem dX7_sheet_56 : decode cX7_sheet 56 = .ok (.iload_n 2, 1) := by decide +kernel
theorem dX7_sheet_57 : decode cX7_sheet 57 = .ok (.ifCond .ge 7, 3) := by decide +kernel
theorem dX7_sheet_60 : decode cX7_sheet 60 = .ok (.iconst 0, 1) := by decide +kernel
theorem dX7_sheet_61 : decode cX7_sheet 61 = .ok (.goto 4, 3) := by decide +kernel
theorem dX7_sheet_64 : decode cX7_sheet 64 = .ok (.iload_n 3, 1) := by decide +kernel
theorem dX7_sheet_65 : decode cX7_sheet 65 = .ok (.iastore, 1) := by decide +kernel
theorem dX7_sheet_66 : decode cX7_sheet 66 = .ok (.iconst 0, 1) := by decide +kernel
theorem dX7_sheet_67 : decode cX7_sheet 67 = .ok (.istore 4, 2) := by decide +kernel
theorem dX7_sheet_69 : decode cX7_sheet 69 = .ok (.iload 4, 2) := by decide +kernel
theorem dX7_sheet_71 : decode cX7_sheet 71 = .ok (.bipush 16, 2) := by decide +kernel
theorem dX7_sheet_73 : decode cX7_sheet 73 = .ok (.if_icmp .ge 22, 3) := by decide +kernel
theorem dX7_sheet_76 : decode cX7_sheet 76 = .ok (.aload_n 0, 1) := by decide +kernel
theorem dX7_sheet_77 : decode cX7_sheet 77 = .ok (.getfield 16, 3) := by decide +kernel
theorem dX7_sheet_80 : decode cX7_sheet 80 = .ok (.bipush 16, 2) := by decide +kernel
theorem dX7_sheet_82 : decode cX7_sheet 82 = .ok (.iload_n 1, 1) := by decide +kernel
theorem dX7_sheet_83 : decode cX7_sheet 83 = .ok (.imul, 1) := by decide +kernel
theorem dX7_sheet_84 : decode cX7_sheet 84 = .ok (.iload 4, 2) := by decide +kernel
theorem dX7_sheet_86 : decode cX7_sheet 86 = .ok (.iadd, 1) := by decide +kernel
theorem dX7_sheet_87 : decode cX7_sheet 87 = .ok (.iconst 0, 1) := by decide +kernel
theorem dX7_sheet_88 : decode cX7_sheet 88 = .ok (.iastore, 1) := by decide +kernel
theorem dX7_sheet_89 : decode cX7_sheet 89 = .ok (.iinc 4 1, 3) := by decide +kernel
theorem dX7_sheet_92 : decode cX7_sheet 92 = .ok (.goto (-23), 3) := by decide +kernel
theorem dX7_sheet_95 : decode cX7_sheet 95 = .ok (.iconst 0, 1) := by decide +kernel
theorem dX7_sheet_96 : decode cX7_sheet 96 = .ok (.ireturn, 1) := by decide +kernel
theorem dX7_against_0 : decode cX7_against 0 = .ok (.iload_n 1, 1) := by decide +kernel
theorem dX7_against_1 : decode cX7_against 1 = .ok (.invokestatic 77, 3) := by decide +kernel
theorem dX7_against_4 : decode cX7_against 4 = .ok (.ifCond .ne 7, 3) := by decide +kernel
theorem dX7_against_7 : decode cX7_against 7 = .ok (.iconst (-1), 1) := by decide +kernel
theorem dX7_against_8 : decode cX7_against 8 = .ok (.goto 41, 3) := by decide +kernel
theorem dX7_against_11 : decode cX7_against 11 = .ok (.aload_n 0, 1) := by decide +kernel
theorem dX7_against_12 : decode cX7_against 12 = .ok (.getfield 7, 3) := by decide +kernel
theorem dX7_against_15 : decode cX7_against 15 = .ok (.iload_n 1, 1) := by decide +kernel
theorem dX7_against_16 : decode cX7_against 16 = .ok (.iaload, 1) := by decide +kernel
theorem dX7_against_17 : decode cX7_against 17 = .ok (.ifCond .ge 8, 3) := by decide +kernel
theorem dX7_against_20 : decode cX7_against 20 = .ok (.bipush (-11), 2) := by decide +kernel
theorem dX7_against_22 : decode cX7_against 22 = .ok (.goto 27, 3) := by decide +kernel
theorem dX7_against_25 : decode cX7_against 25 = .ok (.iload_n 2, 1) := by decide +kernel
theorem dX7_against_26 : decode cX7_against 26 = .ok (.i2l, 1) := by decide +kernel
theorem dX7_against_27 : decode cX7_against 27 = .ok (.lconst 0, 1) := by decide +kernel
theorem dX7_against_28 : decode cX7_against 28 = .ok (.aload_n 0, 1) := by decide +kernel
theorem dX7_against_29 : decode cX7_against 29 = .ok (.getfield 13, 3) := by decide +kernel
theorem dX7_against_32 : decode cX7_against 32 = .ok (.iload_n 1, 1) := by decide +kernel
theorem dX7_against_33 : decode cX7_against 33 = .ok (.iaload, 1) := by decide +kernel
theorem dX7_against_34 : decode cX7_against 34 = .ok (.iconst 1, 1) := by decide +kernel
theorem dX7_against_35 : decode cX7_against 35 = .ok (.isub, 1) := by decide +kernel
theorem dX7_against_36 : decode cX7_against 36 = .ok (.i2l, 1) := by decide +kernel
theorem dX7_against_37 : decode cX7_against 37 = .ok (.invokestatic 73, 3) := by decide +kernel
theorem dX7_against_40 : decode cX7_against 40 = .ok (.ifCond .ne 8, 3) := by decide +kernel
theorem dX7_against_43 : decode cX7_against 43 = .ok (.bipush (-12), 2) := by decide +kernel
theorem dX7_against_45 : decode cX7_against 45 = .ok (.goto 4, 3) := by decide +kernel
theorem dX7_against_48 : decode cX7_against 48 = .ok (.iconst 0, 1) := by decide +kernel
theorem dX7_against_49 : decode cX7_against 49 = .ok (.ireturn, 1) := by decide +kernel
theorem dX7_put_0 : decode cX7_put 0 = .ok (.aload_n 0, 1) := by decide +kernel
theorem dX7_put_1 : decode cX7_put 1 = .ok (.iload_n 1, 1) := by decide +kernel
theorem dX7_put_2 : decode cX7_put 2 = .ok (.iload_n 2, 1) := by decide +kernel
theorem dX7_put_3 : decode cX7_put 3 = .ok (.invokevirtual 85, 3) := by decide +kernel
theorem dX7_put_6 : decode cX7_put 6 = .ok (.istore 4, 2) := by decide +kernel
theorem dX7_put_8 : decode cX7_put 8 = .ok (.iload 4, 2) := by decide +kernel
theorem dX7_put_10 : decode cX7_put 10 = .ok (.ifCond .ne 44, 3) := by decide +kernel
theorem dX7_put_13 : decode cX7_put 13 = .ok (.aload_n 0, 1) := by decide +kernel
theorem dX7_put_14 : decode cX7_put 14 = .ok (.getfield 16, 3) := by decide +kernel
theorem dX7_put_17 : decode cX7_put 17 = .ok (.bipush 16, 2) := by decide +kernel
theorem dX7_put_19 : decode cX7_put 19 = .ok (.iload_n 1, 1) := by decide +kernel
theorem dX7_put_20 : decode cX7_put 20 = .ok (.imul, 1) := by decide +kernel
theorem dX7_put_21 : decode cX7_put 21 = .ok (.iload_n 2, 1) := by decide +kernel
theorem dX7_put_22 : decode cX7_put 22 = .ok (.iadd, 1) := by decide +kernel
theorem dX7_put_23 : decode cX7_put 23 = .ok (.aload_n 0, 1) := by decide +kernel
theorem dX7_put_24 : decode cX7_put 24 = .ok (.getfield 7, 3) := by decide +kernel
theorem dX7_put_27 : decode cX7_put 27 = .ok (.iload_n 1, 1) := by decide +kernel
theorem dX7_put_28 : decode cX7_put 28 = .ok (.iaload, 1) := by decide +kernel
theorem dX7_put_29 : decode cX7_put 29 = .ok (.ifCond .ne 8, 3) := by decide +kernel
theorem dX7_put_32 : decode cX7_put 32 = .ok (.iload_n 3, 1) := by decide +kernel
theorem dX7_put_33 : decode cX7_put 33 = .ok (.i2b, 1) := by decide +kernel
theorem dX7_put_34 : decode cX7_put 34 = .ok (.goto 19, 3) := by decide +kernel
theorem dX7_put_37 : decode cX7_put 37 = .ok (.aload_n 0, 1) := by decide +kernel
theorem dX7_put_38 : decode cX7_put 38 = .ok (.getfield 7, 3) := by decide +kernel
theorem dX7_put_41 : decode cX7_put 41 = .ok (.iload_n 1, 1) := by decide +kernel
theorem dX7_put_42 : decode cX7_put 42 = .ok (.iaload, 1) := by decide +kernel
theorem dX7_put_43 : decode cX7_put 43 = .ok (.iconst 1, 1) := by decide +kernel
theorem dX7_put_44 : decode cX7_put 44 = .ok (.if_icmp .ne 8, 3) := by decide +kernel
theorem dX7_put_47 : decode cX7_put 47 = .ok (.iload_n 3, 1) := by decide +kernel
theorem dX7_put_48 : decode cX7_put 48 = .ok (.i2s, 1) := by decide +kernel
theorem dX7_put_49 : decode cX7_put 49 = .ok (.goto 4, 3) := by decide +kernel
theorem dX7_put_52 : decode cX7_put 52 = .ok (.iload_n 3, 1) := by decide +kernel
theorem dX7_put_53 : decode cX7_put 53 = .ok (.iastore, 1) := by decide +kernel
theorem dX7_put_54 : decode cX7_put 54 = .ok (.iload 4, 2) := by decide +kernel
theorem dX7_put_56 : decode cX7_put 56 = .ok (.ireturn, 1) := by decide +kernel
theorem dX7_copy_0 : decode cX7_copy 0 = .ok (.iload_n 1, 1) := by decide +kernel
theorem dX7_copy_1 : decode cX7_copy 1 = .ok (.invokestatic 77, 3) := by decide +kernel
theorem dX7_copy_4 : decode cX7_copy 4 = .ok (.ifCond .eq 10, 3) := by decide +kernel
theorem dX7_copy_7 : decode cX7_copy 7 = .ok (.iload_n 3, 1) := by decide +kernel
theorem dX7_copy_8 : decode cX7_copy 8 = .ok (.invokestatic 77, 3) := by decide +kernel
theorem dX7_copy_11 : decode cX7_copy 11 = .ok (.ifCond .ne 5, 3) := by decide +kernel
theorem dX7_copy_14 : decode cX7_copy 14 = .ok (.iconst (-1), 1) := by decide +kernel
theorem dX7_copy_15 : decode cX7_copy 15 = .ok (.ireturn, 1) := by decide +kernel
theorem dX7_copy_16 : decode cX7_copy 16 = .ok (.aload_n 0, 1) := by decide +kernel
theorem dX7_copy_17 : decode cX7_copy 17 = .ok (.getfield 7, 3) := by decide +kernel
theorem dX7_copy_20 : decode cX7_copy 20 = .ok (.iload_n 1, 1) := by decide +kernel
theorem dX7_copy_21 : decode cX7_copy 21 = .ok (.iaload, 1) := by decide +kernel
theorem dX7_copy_22 : decode cX7_copy 22 = .ok (.ifCond .lt 12, 3) := by decide +kernel
theorem dX7_copy_25 : decode cX7_copy 25 = .ok (.aload_n 0, 1) := by decide +kernel
theorem dX7_copy_26 : decode cX7_copy 26 = .ok (.getfield 7, 3) := by decide +kernel
theorem dX7_copy_29 : decode cX7_copy 29 = .ok (.iload_n 3, 1) := by decide +kernel
theorem dX7_copy_30 : decode cX7_copy 30 = .ok (.iaload, 1) := by decide +kernel
theorem dX7_copy_31 : decode cX7_copy 31 = .ok (.ifCond .ge 6, 3) := by decide +kernel
theorem dX7_copy_34 : decode cX7_copy 34 = .ok (.bipush (-11), 2) := by decide +kernel
theorem dX7_copy_36 : decode cX7_copy 36 = .ok (.ireturn, 1) := by decide +kernel
theorem dX7_copy_37 : decode cX7_copy 37 = .ok (.aload_n 0, 1) := by decide +kernel
theorem dX7_copy_38 : decode cX7_copy 38 = .ok (.getfield 7, 3) := by decide +kernel
theorem dX7_copy_41 : decode cX7_copy 41 = .ok (.iload_n 1, 1) := by decide +kernel
theorem dX7_copy_42 : decode cX7_copy 42 = .ok (.iaload, 1) := by decide +kernel
theorem dX7_copy_43 : decode cX7_copy 43 = .ok (.aload_n 0, 1) := by decide +kernel
theorem dX7_copy_44 : decode cX7_copy 44 = .ok (.getfield 7, 3) := by decide +kernel
theorem dX7_copy_47 : decode cX7_copy 47 = .ok (.iload_n 3, 1) := by decide +kernel
theorem dX7_copy_48 : decode cX7_copy 48 = .ok (.iaload, 1) := by decide +kernel
theorem dX7_copy_49 : decode cX7_copy 49 = .ok (.if_icmp .eq 6, 3) := by decide +kernel
theorem dX7_copy_52 : decode cX7_copy 52 = .ok (.bipush (-14), 2) := by decide +kernel
theorem dX7_copy_54 : decode cX7_copy 54 = .ok (.ireturn, 1) := by decide +kernel
theorem dX7_copy_55 : decode cX7_copy 55 = .ok (.iload 5, 2) := by decide +kernel
theorem dX7_copy_57 : decode cX7_copy 57 = .ok (.ifCond .lt 47, 3) := by decide +kernel
theorem dX7_copy_60 : decode cX7_copy 60 = .ok (.iload_n 2, 1) := by decide +kernel
theorem dX7_copy_61 : decode cX7_copy 61 = .ok (.ifCond .lt 43, 3) := by decide +kernel
theorem dX7_copy_64 : decode cX7_copy 64 = .ok (.iload 4, 2) := by decide +kernel
theorem dX7_copy_66 : decode cX7_copy 66 = .ok (.ifCond .lt 38, 3) := by decide +kernel
theorem dX7_copy_69 : decode cX7_copy 69 = .ok (.iload_n 2, 1) := by decide +kernel
theorem dX7_copy_70 : decode cX7_copy 70 = .ok (.i2l, 1) := by decide +kernel
theorem dX7_copy_71 : decode cX7_copy 71 = .ok (.iload 5, 2) := by decide +kernel
theorem dX7_copy_73 : decode cX7_copy 73 = .ok (.i2l, 1) := by decide +kernel
theorem dX7_copy_74 : decode cX7_copy 74 = .ok (.ladd, 1) := by decide +kernel
theorem dX7_copy_75 : decode cX7_copy 75 = .ok (.aload_n 0, 1) := by decide +kernel
theorem dX7_copy_76 : decode cX7_copy 76 = .ok (.getfield 13, 3) := by decide +kernel
theorem dX7_copy_79 : decode cX7_copy 79 = .ok (.iload_n 1, 1) := by decide +kernel
theorem dX7_copy_80 : decode cX7_copy 80 = .ok (.iaload, 1) := by decide +kernel
theorem dX7_copy_81 : decode cX7_copy 81 = .ok (.i2l, 1) := by decide +kernel
theorem dX7_copy_82 : decode cX7_copy 82 = .ok (.lcmp, 1) := by decide +kernel
theorem dX7_copy_83 : decode cX7_copy 83 = .ok (.ifCond .gt 21, 3) := by decide +kernel
theorem dX7_copy_86 : decode cX7_copy 86 = .ok (.iload 4, 2) := by decide +kernel
theorem dX7_copy_88 : decode cX7_copy 88 = .ok (.i2l, 1) := by decide +kernel
theorem dX7_copy_89 : decode cX7_copy 89 = .ok (.iload 5, 2) := by decide +kernel
theorem dX7_copy_91 : decode cX7_copy 91 = .ok (.i2l, 1) := by decide +kernel
theorem dX7_copy_92 : decode cX7_copy 92 = .ok (.ladd, 1) := by decide +kernel
theorem dX7_copy_93 : decode cX7_copy 93 = .ok (.aload_n 0, 1) := by decide +kernel
theorem dX7_copy_94 : decode cX7_copy 94 = .ok (.getfield 13, 3) := by decide +kernel
theorem dX7_copy_97 : decode cX7_copy 97 = .ok (.iload_n 3, 1) := by decide +kernel
theorem dX7_copy_98 : decode cX7_copy 98 = .ok (.iaload, 1) := by decide +kernel
theorem dX7_copy_99 : decode cX7_copy 99 = .ok (.i2l, 1) := by decide +kernel
theorem dX7_copy_100 : decode cX7_copy 100 = .ok (.lcmp, 1) := by decide +kernel
theorem dX7_copy_101 : decode cX7_copy 101 = .ok (.ifCond .le 6, 3) := by decide +kernel
theorem dX7_copy_104 : decode cX7_copy 104 = .ok (.bipush (-12), 2) := by decide +kernel
theorem dX7_copy_106 : decode cX7_copy 106 = .ok (.ireturn, 1) := by decide +kernel
theorem dX7_copy_107 : decode cX7_copy 107 = .ok (.iconst 0, 1) := by decide +kernel
theorem dX7_copy_108 : decode cX7_copy 108 = .ok (.istore 6, 2) := by decide +kernel
theorem dX7_copy_110 : decode cX7_copy 110 = .ok (.iload 6, 2) := by decide +kernel
theorem dX7_copy_112 : decode cX7_copy 112 = .ok (.iload 5, 2) := by decide +kernel
theorem dX7_copy_114 : decode cX7_copy 114 = .ok (.if_icmp .ge 30, 3) := by decide +kernel
theorem dX7_copy_117 : decode cX7_copy 117 = .ok (.aload_n 0, 1) := by decide +kernel
theorem dX7_copy_118 : decode cX7_copy 118 = .ok (.getfield 40, 3) := by decide +kernel
theorem dX7_copy_121 : decode cX7_copy 121 = .ok (.iload 6, 2) := by decide +kernel
theorem dX7_copy_123 : decode cX7_copy 123 = .ok (.aload_n 0, 1) := by decide +kernel
theorem dX7_copy_124 : decode cX7_copy 124 = .ok (.getfield 16, 3) := by decide +kernel
theorem dX7_copy_127 : decode cX7_copy 127 = .ok (.bipush 16, 2) := by decide +kernel
theorem dX7_copy_129 : decode cX7_copy 129 = .ok (.iload_n 1, 1) := by decide +kernel
theorem dX7_copy_130 : decode cX7_copy 130 = .ok (.imul, 1) := by decide +kernel
theorem dX7_copy_131 : decode cX7_copy 131 = .ok (.iload_n 2, 1) := by decide +kernel
theorem dX7_copy_132 : decode cX7_copy 132 = .ok (.iadd, 1) := by decide +kernel
theorem dX7_copy_133 : decode cX7_copy 133 = .ok (.iload 6, 2) := by decide +kernel
theorem dX7_copy_135 : decode cX7_copy 135 = .ok (.iadd, 1) := by decide +kernel
theorem dX7_copy_136 : decode cX7_copy 136 = .ok (.iaload, 1) := by decide +kernel
theorem dX7_copy_137 : decode cX7_copy 137 = .ok (.iastore, 1) := by decide +kernel
theorem dX7_copy_138 : decode cX7_copy 138 = .ok (.iinc 6 1, 3) := by decide +kernel
theorem dX7_copy_141 : decode cX7_copy 141 = .ok (.goto (-31), 3) := by decide +kernel
theorem dX7_copy_144 : decode cX7_copy 144 = .ok (.iconst 0, 1) := by decide +kernel
theorem dX7_copy_145 : decode cX7_copy 145 = .ok (.istore 6, 2) := by decide +kernel
theorem dX7_copy_147 : decode cX7_copy 147 = .ok (.iload 6, 2) := by decide +kernel
theorem dX7_copy_149 : decode cX7_copy 149 = .ok (.iload 5, 2) := by decide +kernel
theorem dX7_copy_151 : decode cX7_copy 151 = .ok (.if_icmp .ge 31, 3) := by decide +kernel
theorem dX7_copy_154 : decode cX7_copy 154 = .ok (.aload_n 0, 1) := by decide +kernel
theorem dX7_copy_155 : decode cX7_copy 155 = .ok (.getfield 16, 3) := by decide +kernel
theorem dX7_copy_158 : decode cX7_copy 158 = .ok (.bipush 16, 2) := by decide +kernel
theorem dX7_copy_160 : decode cX7_copy 160 = .ok (.iload_n 3, 1) := by decide +kernel
theorem dX7_copy_161 : decode cX7_copy 161 = .ok (.imul, 1) := by decide +kernel
theorem dX7_copy_162 : decode cX7_copy 162 = .ok (.iload 4, 2) := by decide +kernel
theorem dX7_copy_164 : decode cX7_copy 164 = .ok (.iadd, 1) := by decide +kernel
theorem dX7_copy_165 : decode cX7_copy 165 = .ok (.iload 6, 2) := by decide +kernel
theorem dX7_copy_167 : decode cX7_copy 167 = .ok (.iadd, 1) := by decide +kernel
theorem dX7_copy_168 : decode cX7_copy 168 = .ok (.aload_n 0, 1) := by decide +kernel
theorem dX7_copy_169 : decode cX7_copy 169 = .ok (.getfield 40, 3) := by decide +kernel
theorem dX7_copy_172 : decode cX7_copy 172 = .ok (.iload 6, 2) := by decide +kernel
theorem dX7_copy_174 : decode cX7_copy 174 = .ok (.iaload, 1) := by decide +kernel
theorem dX7_copy_175 : decode cX7_copy 175 = .ok (.iastore, 1) := by decide +kernel
theorem dX7_copy_176 : decode cX7_copy 176 = .ok (.iinc 6 1, 3) := by decide +kernel
theorem dX7_copy_179 : decode cX7_copy 179 = .ok (.goto (-32), 3) := by decide +kernel
theorem dX7_copy_182 : decode cX7_copy 182 = .ok (.iconst 0, 1) := by decide +kernel
theorem dX7_copy_183 : decode cX7_copy 183 = .ok (.ireturn, 1) := by decide +kernel
theorem dX7_told_0 : decode cX7_told 0 = .ok (.aload_n 0, 1) := by decide +kernel
theorem dX7_told_1 : decode cX7_told 1 = .ok (.iload_n 1, 1) := by decide +kernel
theorem dX7_told_2 : decode cX7_told 2 = .ok (.iload_n 2, 1) := by decide +kernel
theorem dX7_told_3 : decode cX7_told 3 = .ok (.invokevirtual 85, 3) := by decide +kernel
theorem dX7_told_6 : decode cX7_told 6 = .ok (.istore_n 3, 1) := by decide +kernel
theorem dX7_told_7 : decode cX7_told 7 = .ok (.iload_n 3, 1) := by decide +kernel
theorem dX7_told_8 : decode cX7_told 8 = .ok (.ifCond .ne 18, 3) := by decide +kernel
theorem dX7_told_11 : decode cX7_told 11 = .ok (.aload_n 0, 1) := by decide +kernel
theorem dX7_told_12 : decode cX7_told 12 = .ok (.getfield 16, 3) := by decide +kernel
theorem dX7_told_15 : decode cX7_told 15 = .ok (.bipush 16, 2) := by decide +kernel
theorem dX7_told_17 : decode cX7_told 17 = .ok (.iload_n 1, 1) := by decide +kernel
theorem dX7_told_18 : decode cX7_told 18 = .ok (.imul, 1) := by decide +kernel
theorem dX7_told_19 : decode cX7_told 19 = .ok (.iload_n 2, 1) := by decide +kernel
theorem dX7_told_20 : decode cX7_told 20 = .ok (.iadd, 1) := by decide +kernel
theorem dX7_told_21 : decode cX7_told 21 = .ok (.iaload, 1) := by decide +kernel
theorem dX7_told_22 : decode cX7_told 22 = .ok (.i2l, 1) := by decide +kernel
theorem dX7_told_23 : decode cX7_told 23 = .ok (.goto 9, 3) := by decide +kernel
theorem dX7_told_26 : decode cX7_told 26 = .ok (.ldc2_w 89, 3) := by decide +kernel
theorem dX7_told_29 : decode cX7_told 29 = .ok (.iload_n 3, 1) := by decide +kernel
theorem dX7_told_30 : decode cX7_told 30 = .ok (.i2l, 1) := by decide +kernel
theorem dX7_told_31 : decode cX7_told 31 = .ok (.lsub, 1) := by decide +kernel
theorem dX7_told_32 : decode cX7_told 32 = .ok (.lreturn, 1) := by decide +kernel
theorem dX7_isJob_0 : decode cX7_isJob 0 = .ok (.iload_n 1, 1) := by decide +kernel
theorem dX7_isJob_1 : decode cX7_isJob 1 = .ok (.i2l, 1) := by decide +kernel
theorem dX7_isJob_2 : decode cX7_isJob 2 = .ok (.lconst 0, 1) := by decide +kernel
theorem dX7_isJob_3 : decode cX7_isJob 3 = .ok (.aload_n 0, 1) := by decide +kernel
theorem dX7_isJob_4 : decode cX7_isJob 4 = .ok (.getfield 91, 3) := by decide +kernel
theorem dX7_isJob_7 : decode cX7_isJob 7 = .ok (.iconst 1, 1) := by decide +kernel
theorem dX7_isJob_8 : decode cX7_isJob 8 = .ok (.isub, 1) := by decide +kernel
theorem dX7_isJob_9 : decode cX7_isJob 9 = .ok (.i2l, 1) := by decide +kernel
theorem dX7_isJob_10 : decode cX7_isJob 10 = .ok (.invokestatic 73, 3) := by decide +kernel
theorem dX7_isJob_13 : decode cX7_isJob 13 = .ok (.ireturn, 1) := by decide +kernel
theorem dX7_keep_0 : decode cX7_keep 0 = .ok (.aload_n 0, 1) := by decide +kernel
theorem dX7_keep_1 : decode cX7_keep 1 = .ok (.getfield 95, 3) := by decide +kernel
theorem dX7_keep_4 : decode cX7_keep 4 = .ok (.bipush 20, 2) := by decide +kernel
theorem dX7_keep_6 : decode cX7_keep 6 = .ok (.if_icmp .ne 43, 3) := by decide +kernel
theorem dX7_keep_9 : decode cX7_keep 9 = .ok (.iconst 0, 1) := by decide +kernel
theorem dX7_keep_10 : decode cX7_keep 10 = .ok (.istore_n 1, 1) := by decide +kernel
theorem dX7_keep_11 : decode cX7_keep 11 = .ok (.iload_n 1, 1) := by decide +kernel
theorem dX7_keep_12 : decode cX7_keep 12 = .ok (.sipush 969, 3) := by decide +kernel
theorem dX7_keep_15 : decode cX7_keep 15 = .ok (.if_icmp .ge 24, 3) := by decide +kernel
theorem dX7_keep_18 : decode cX7_keep 18 = .ok (.aload_n 0, 1) := by decide +kernel
theorem dX7_keep_19 : decode cX7_keep 19 = .ok (.getfield 34, 3) := by decide +kernel
theorem dX7_keep_22 : decode cX7_keep 22 = .ok (.iload_n 1, 1) := by decide +kernel
theorem dX7_keep_23 : decode cX7_keep 23 = .ok (.aload_n 0, 1) := by decide +kernel
theorem dX7_keep_24 : decode cX7_keep 24 = .ok (.getfield 34, 3) := by decide +kernel
theorem dX7_keep_27 : decode cX7_keep 27 = .ok (.iload_n 1, 1) := by decide +kernel
theorem dX7_keep_28 : decode cX7_keep 28 = .ok (.bipush 51, 2) := by decide +kernel
theorem dX7_keep_30 : decode cX7_keep 30 = .ok (.iadd, 1) := by decide +kernel
theorem dX7_keep_31 : decode cX7_keep 31 = .ok (.iaload, 1) := by decide +kernel
theorem dX7_keep_32 : decode cX7_keep 32 = .ok (.iastore, 1) := by decide +kernel
theorem dX7_keep_33 : decode cX7_keep 33 = .ok (.iinc 1 1, 3) := by decide +kernel
theorem dX7_keep_36 : decode cX7_keep 36 = .ok (.goto (-25), 3) := by decide +kernel
theorem dX7_keep_39 : decode cX7_keep 39 = .ok (.aload_n 0, 1) := by decide +kernel
theorem dX7_keep_40 : decode cX7_keep 40 = .ok (.dup, 1) := by decide +kernel
theorem dX7_keep_41 : decode cX7_keep 41 = .ok (.getfield 95, 3) := by decide +kernel
theorem dX7_keep_44 : decode cX7_keep 44 = .ok (.iconst 1, 1) := by decide +kernel
theorem dX7_keep_45 : decode cX7_keep 45 = .ok (.isub, 1) := by decide +kernel
theorem dX7_keep_46 : decode cX7_keep 46 = .ok (.putfield 95, 3) := by decide +kernel
theorem dX7_keep_49 : decode cX7_keep 49 = .ok (.bipush 51, 2) := by decide +kernel
theorem dX7_keep_51 : decode cX7_keep 51 = .ok (.aload_n 0, 1) := by decide +kernel
theorem dX7_keep_52 : decode cX7_keep 52 = .ok (.getfield 95, 3) := by decide +kernel
theorem dX7_keep_55 : decode cX7_keep 55 = .ok (.imul, 1) := by decide +kernel
theorem dX7_keep_56 : decode cX7_keep 56 = .ok (.istore_n 1, 1) := by decide +kernel
theorem dX7_keep_57 : decode cX7_keep 57 = .ok (.aload_n 0, 1) := by decide +kernel
theorem dX7_keep_58 : decode cX7_keep 58 = .ok (.getfield 34, 3) := by decide +kernel
theorem dX7_keep_61 : decode cX7_keep 61 = .ok (.iload_n 1, 1) := by decide +kernel
theorem dX7_keep_62 : decode cX7_keep 62 = .ok (.aload_n 0, 1) := by decide +kernel
theorem dX7_keep_63 : decode cX7_keep 63 = .ok (.getfield 91, 3) := by decide +kernel
theorem dX7_keep_66 : decode cX7_keep 66 = .ok (.iastore, 1) := by decide +kernel
theorem dX7_keep_67 : decode cX7_keep 67 = .ok (.iconst 0, 1) := by decide +kernel
theorem dX7_keep_68 : decode cX7_keep 68 = .ok (.istore_n 2, 1) := by decide +kernel
theorem dX7_keep_69 : decode cX7_keep 69 = .ok (.iload_n 2, 1) := by decide +kernel
theorem dX7_keep_70 : decode cX7_keep 70 = .ok (.bipush 10, 2) := by decide +kernel
theorem dX7_keep_72 : decode cX7_keep 72 = .ok (.if_icmp .ge 99, 3) := by decide +kernel
theorem dX7_keep_75 : decode cX7_keep 75 = .ok (.aload_n 0, 1) := by decide +kernel
theorem dX7_keep_76 : decode cX7_keep 76 = .ok (.getfield 34, 3) := by decide +kernel
theorem dX7_keep_79 : decode cX7_keep 79 = .ok (.iload_n 1, 1) := by decide +kernel
theorem dX7_keep_80 : decode cX7_keep 80 = .ok (.iconst 1, 1) := by decide +kernel
theorem dX7_keep_81 : decode cX7_keep 81 = .ok (.iadd, 1) := by decide +kernel
theorem dX7_keep_82 : decode cX7_keep 82 = .ok (.iconst 5, 1) := by decide +kernel
theorem dX7_keep_83 : decode cX7_keep 83 = .ok (.iload_n 2, 1) := by decide +kernel
theorem dX7_keep_84 : decode cX7_keep 84 = .ok (.imul, 1) := by decide +kernel
theorem dX7_keep_85 : decode cX7_keep 85 = .ok (.iadd, 1) := by decide +kernel
theorem dX7_keep_86 : decode cX7_keep 86 = .ok (.aload_n 0, 1) := by decide +kernel
theorem dX7_keep_87 : decode cX7_keep 87 = .ok (.getfield 19, 3) := by decide +kernel
theorem dX7_keep_90 : decode cX7_keep 90 = .ok (.iload_n 2, 1) := by decide +kernel
theorem dX7_keep_91 : decode cX7_keep 91 = .ok (.iaload, 1) := by decide +kernel
theorem dX7_keep_92 : decode cX7_keep 92 = .ok (.iastore, 1) := by decide +kernel
theorem dX7_keep_93 : decode cX7_keep 93 = .ok (.aload_n 0, 1) := by decide +kernel
theorem dX7_keep_94 : decode cX7_keep 94 = .ok (.getfield 34, 3) := by decide +kernel
theorem dX7_keep_97 : decode cX7_keep 97 = .ok (.iload_n 1, 1) := by decide +kernel
theorem dX7_keep_98 : decode cX7_keep 98 = .ok (.iconst 2, 1) := by decide +kernel
theorem dX7_keep_99 : decode cX7_keep 99 = .ok (.iadd, 1) := by decide +kernel
theorem dX7_keep_100 : decode cX7_keep 100 = .ok (.iconst 5, 1) := by decide +kernel
theorem dX7_keep_101 : decode cX7_keep 101 = .ok (.iload_n 2, 1) := by decide +kernel
theorem dX7_keep_102 : decode cX7_keep 102 = .ok (.imul, 1) := by decide +kernel
theorem dX7_keep_103 : decode cX7_keep 103 = .ok (.iadd, 1) := by decide +kernel
theorem dX7_keep_104 : decode cX7_keep 104 = .ok (.aload_n 0, 1) := by decide +kernel
theorem dX7_keep_105 : decode cX7_keep 105 = .ok (.getfield 22, 3) := by decide +kernel
theorem dX7_keep_108 : decode cX7_keep 108 = .ok (.iload_n 2, 1) := by decide +kernel
theorem dX7_keep_109 : decode cX7_keep 109 = .ok (.iaload, 1) := by decide +kernel
theorem dX7_keep_110 : decode cX7_keep 110 = .ok (.iastore, 1) := by decide +kernel
theorem dX7_keep_111 : decode cX7_keep 111 = .ok (.aload_n 0, 1) := by decide +kernel
theorem dX7_keep_112 : decode cX7_keep 112 = .ok (.getfield 34, 3) := by decide +kernel
theorem dX7_keep_115 : decode cX7_keep 115 = .ok (.iload_n 1, 1) := by decide +kernel
theorem dX7_keep_116 : decode cX7_keep 116 = .ok (.iconst 3, 1) := by decide +kernel
theorem dX7_keep_117 : decode cX7_keep 117 = .ok (.iadd, 1) := by decide +kernel
theorem dX7_keep_118 : decode cX7_keep 118 = .ok (.iconst 5, 1) := by decide +kernel
theorem dX7_keep_119 : decode cX7_keep 119 = .ok (.iload_n 2, 1) := by decide +kernel
theorem dX7_keep_120 : decode cX7_keep 120 = .ok (.imul, 1) := by decide +kernel
theorem dX7_keep_121 : decode cX7_keep 121 = .ok (.iadd, 1) := by decide +kernel
theorem dX7_keep_122 : decode cX7_keep 122 = .ok (.aload_n 0, 1) := by decide +kernel
theorem dX7_keep_123 : decode cX7_keep 123 = .ok (.getfield 25, 3) := by decide +kernel
theorem dX7_keep_126 : decode cX7_keep 126 = .ok (.iload_n 2, 1) := by decide +kernel
theorem dX7_keep_127 : decode cX7_keep 127 = .ok (.iaload, 1) := by decide +kernel
theorem dX7_keep_128 : decode cX7_keep 128 = .ok (.iastore, 1) := by decide +kernel
theorem dX7_keep_129 : decode cX7_keep 129 = .ok (.aload_n 0, 1) := by decide +kernel
theorem dX7_keep_130 : decode cX7_keep 130 = .ok (.getfield 34, 3) := by decide +kernel
theorem dX7_keep_133 : decode cX7_keep 133 = .ok (.iload_n 1, 1) := by decide +kernel
theorem dX7_keep_134 : decode cX7_keep 134 = .ok (.iconst 4, 1) := by decide +kernel
theorem dX7_keep_135 : decode cX7_keep 135 = .ok (.iadd, 1) := by decide +kernel
theorem dX7_keep_136 : decode cX7_keep 136 = .ok (.iconst 5, 1) := by decide +kernel
theorem dX7_keep_137 : decode cX7_keep 137 = .ok (.iload_n 2, 1) := by decide +kernel
theorem dX7_keep_138 : decode cX7_keep 138 = .ok (.imul, 1) := by decide +kernel
theorem dX7_keep_139 : decode cX7_keep 139 = .ok (.iadd, 1) := by decide +kernel
theorem dX7_keep_140 : decode cX7_keep 140 = .ok (.aload_n 0, 1) := by decide +kernel
theorem dX7_keep_141 : decode cX7_keep 141 = .ok (.getfield 28, 3) := by decide +kernel
theorem dX7_keep_144 : decode cX7_keep 144 = .ok (.iload_n 2, 1) := by decide +kernel
theorem dX7_keep_145 : decode cX7_keep 145 = .ok (.iaload, 1) := by decide +kernel
theorem dX7_keep_146 : decode cX7_keep 146 = .ok (.iastore, 1) := by decide +kernel
theorem dX7_keep_147 : decode cX7_keep 147 = .ok (.aload_n 0, 1) := by decide +kernel
theorem dX7_keep_148 : decode cX7_keep 148 = .ok (.getfield 34, 3) := by decide +kernel
theorem dX7_keep_151 : decode cX7_keep 151 = .ok (.iload_n 1, 1) := by decide +kernel
theorem dX7_keep_152 : decode cX7_keep 152 = .ok (.iconst 5, 1) := by decide +kernel
theorem dX7_keep_153 : decode cX7_keep 153 = .ok (.iadd, 1) := by decide +kernel
theorem dX7_keep_154 : decode cX7_keep 154 = .ok (.iconst 5, 1) := by decide +kernel
theorem dX7_keep_155 : decode cX7_keep 155 = .ok (.iload_n 2, 1) := by decide +kernel
theorem dX7_keep_156 : decode cX7_keep 156 = .ok (.imul, 1) := by decide +kernel
theorem dX7_keep_157 : decode cX7_keep 157 = .ok (.iadd, 1) := by decide +kernel
theorem dX7_keep_158 : decode cX7_keep 158 = .ok (.aload_n 0, 1) := by decide +kernel
theorem dX7_keep_159 : decode cX7_keep 159 = .ok (.getfield 31, 3) := by decide +kernel
theorem dX7_keep_162 : decode cX7_keep 162 = .ok (.iload_n 2, 1) := by decide +kernel
theorem dX7_keep_163 : decode cX7_keep 163 = .ok (.iaload, 1) := by decide +kernel
theorem dX7_keep_164 : decode cX7_keep 164 = .ok (.iastore, 1) := by decide +kernel
theorem dX7_keep_165 : decode cX7_keep 165 = .ok (.iinc 2 1, 3) := by decide +kernel
theorem dX7_keep_168 : decode cX7_keep 168 = .ok (.goto (-99), 3) := by decide +kernel
theorem dX7_keep_171 : decode cX7_keep 171 = .ok (.aload_n 0, 1) := by decide +kernel
theorem dX7_keep_172 : decode cX7_keep 172 = .ok (.dup, 1) := by decide +kernel
theorem dX7_keep_173 : decode cX7_keep 173 = .ok (.getfield 95, 3) := by decide +kernel
theorem dX7_keep_176 : decode cX7_keep 176 = .ok (.iconst 1, 1) := by decide +kernel
theorem dX7_keep_177 : decode cX7_keep 177 = .ok (.iadd, 1) := by decide +kernel
theorem dX7_keep_178 : decode cX7_keep 178 = .ok (.putfield 95, 3) := by decide +kernel
theorem dX7_keep_181 : decode cX7_keep 181 = .ok (.aload_n 0, 1) := by decide +kernel
theorem dX7_keep_182 : decode cX7_keep 182 = .ok (.iconst 0, 1) := by decide +kernel
theorem dX7_keep_183 : decode cX7_keep 183 = .ok (.putfield 98, 3) := by decide +kernel
theorem dX7_keep_186 : decode cX7_keep 186 = .ok (.return_, 1) := by decide +kernel
theorem dX7_undo_0 : decode cX7_undo 0 = .ok (.aload_n 0, 1) := by decide +kernel
theorem dX7_undo_1 : decode cX7_undo 1 = .ok (.getfield 95, 3) := by decide +kernel
theorem dX7_undo_4 : decode cX7_undo 4 = .ok (.ifCond .ne 6, 3) := by decide +kernel
theorem dX7_undo_7 : decode cX7_undo 7 = .ok (.bipush (-3), 2) := by decide +kernel
theorem dX7_undo_9 : decode cX7_undo 9 = .ok (.ireturn, 1) := by decide +kernel
theorem dX7_undo_10 : decode cX7_undo 10 = .ok (.aload_n 0, 1) := by decide +kernel
theorem dX7_undo_11 : decode cX7_undo 11 = .ok (.dup, 1) := by decide +kernel
theorem dX7_undo_12 : decode cX7_undo 12 = .ok (.getfield 95, 3) := by decide +kernel
theorem dX7_undo_15 : decode cX7_undo 15 = .ok (.iconst 1, 1) := by decide +kernel
theorem dX7_undo_16 : decode cX7_undo 16 = .ok (.isub, 1) := by decide +kernel
theorem dX7_undo_17 : decode cX7_undo 17 = .ok (.putfield 95, 3) := by decide +kernel
theorem dX7_undo_20 : decode cX7_undo 20 = .ok (.bipush 51, 2) := by decide +kernel
theorem dX7_undo_22 : decode cX7_undo 22 = .ok (.aload_n 0, 1) := by decide +kernel
theorem dX7_undo_23 : decode cX7_undo 23 = .ok (.getfield 95, 3) := by decide +kernel
theorem dX7_undo_26 : decode cX7_undo 26 = .ok (.imul, 1) := by decide +kernel
theorem dX7_undo_27 : decode cX7_undo 27 = .ok (.istore_n 1, 1) := by decide +kernel
theorem dX7_undo_28 : decode cX7_undo 28 = .ok (.aload_n 0, 1) := by decide +kernel
theorem dX7_undo_29 : decode cX7_undo 29 = .ok (.aload_n 0, 1) := by decide +kernel
theorem dX7_undo_30 : decode cX7_undo 30 = .ok (.getfield 34, 3) := by decide +kernel
theorem dX7_undo_33 : decode cX7_undo 33 = .ok (.iload_n 1, 1) := by decide +kernel
theorem dX7_undo_34 : decode cX7_undo 34 = .ok (.iaload, 1) := by decide +kernel
theorem dX7_undo_35 : decode cX7_undo 35 = .ok (.putfield 91, 3) := by decide +kernel
theorem dX7_undo_38 : decode cX7_undo 38 = .ok (.iconst 0, 1) := by decide +kernel
theorem dX7_undo_39 : decode cX7_undo 39 = .ok (.istore_n 2, 1) := by decide +kernel
theorem dX7_undo_40 : decode cX7_undo 40 = .ok (.iload_n 2, 1) := by decide +kernel
theorem dX7_undo_41 : decode cX7_undo 41 = .ok (.bipush 10, 2) := by decide +kernel
theorem dX7_undo_43 : decode cX7_undo 43 = .ok (.if_icmp .ge 99, 3) := by decide +kernel
theorem dX7_undo_46 : decode cX7_undo 46 = .ok (.aload_n 0, 1) := by decide +kernel
theorem dX7_undo_47 : decode cX7_undo 47 = .ok (.getfield 19, 3) := by decide +kernel
theorem dX7_undo_50 : decode cX7_undo 50 = .ok (.iload_n 2, 1) := by decide +kernel
theorem dX7_undo_51 : decode cX7_undo 51 = .ok (.aload_n 0, 1) := by decide +kernel
theorem dX7_undo_52 : decode cX7_undo 52 = .ok (.getfield 34, 3) := by decide +kernel
theorem dX7_undo_55 : decode cX7_undo 55 = .ok (.iload_n 1, 1) := by decide +kernel
theorem dX7_undo_56 : decode cX7_undo 56 = .ok (.iconst 1, 1) := by decide +kernel
theorem dX7_undo_57 : decode cX7_undo 57 = .ok (.iadd, 1) := by decide +kernel
theorem dX7_undo_58 : decode cX7_undo 58 = .ok (.iconst 5, 1) := by decide +kernel
theorem dX7_undo_59 : decode cX7_undo 59 = .ok (.iload_n 2, 1) := by decide +kernel
theorem dX7_undo_60 : decode cX7_undo 60 = .ok (.imul, 1) := by decide +kernel
theorem dX7_undo_61 : decode cX7_undo 61 = .ok (.iadd, 1) := by decide +kernel
theorem dX7_undo_62 : decode cX7_undo 62 = .ok (.iaload, 1) := by decide +kernel
theorem dX7_undo_63 : decode cX7_undo 63 = .ok (.iastore, 1) := by decide +kernel
theorem dX7_undo_64 : decode cX7_undo 64 = .ok (.aload_n 0, 1) := by decide +kernel
theorem dX7_undo_65 : decode cX7_undo 65 = .ok (.getfield 22, 3) := by decide +kernel
theorem dX7_undo_68 : decode cX7_undo 68 = .ok (.iload_n 2, 1) := by decide +kernel
theorem dX7_undo_69 : decode cX7_undo 69 = .ok (.aload_n 0, 1) := by decide +kernel
theorem dX7_undo_70 : decode cX7_undo 70 = .ok (.getfield 34, 3) := by decide +kernel
theorem dX7_undo_73 : decode cX7_undo 73 = .ok (.iload_n 1, 1) := by decide +kernel
theorem dX7_undo_74 : decode cX7_undo 74 = .ok (.iconst 2, 1) := by decide +kernel
theorem dX7_undo_75 : decode cX7_undo 75 = .ok (.iadd, 1) := by decide +kernel
theorem dX7_undo_76 : decode cX7_undo 76 = .ok (.iconst 5, 1) := by decide +kernel
theorem dX7_undo_77 : decode cX7_undo 77 = .ok (.iload_n 2, 1) := by decide +kernel
theorem dX7_undo_78 : decode cX7_undo 78 = .ok (.imul, 1) := by decide +kernel
theorem dX7_undo_79 : decode cX7_undo 79 = .ok (.iadd, 1) := by decide +kernel
theorem dX7_undo_80 : decode cX7_undo 80 = .ok (.iaload, 1) := by decide +kernel
theorem dX7_undo_81 : decode cX7_undo 81 = .ok (.iastore, 1) := by decide +kernel
theorem dX7_undo_82 : decode cX7_undo 82 = .ok (.aload_n 0, 1) := by decide +kernel
theorem dX7_undo_83 : decode cX7_undo 83 = .ok (.getfield 25, 3) := by decide +kernel
theorem dX7_undo_86 : decode cX7_undo 86 = .ok (.iload_n 2, 1) := by decide +kernel
theorem dX7_undo_87 : decode cX7_undo 87 = .ok (.aload_n 0, 1) := by decide +kernel
theorem dX7_undo_88 : decode cX7_undo 88 = .ok (.getfield 34, 3) := by decide +kernel
theorem dX7_undo_91 : decode cX7_undo 91 = .ok (.iload_n 1, 1) := by decide +kernel
theorem dX7_undo_92 : decode cX7_undo 92 = .ok (.iconst 3, 1) := by decide +kernel
theorem dX7_undo_93 : decode cX7_undo 93 = .ok (.iadd, 1) := by decide +kernel
theorem dX7_undo_94 : decode cX7_undo 94 = .ok (.iconst 5, 1) := by decide +kernel
theorem dX7_undo_95 : decode cX7_undo 95 = .ok (.iload_n 2, 1) := by decide +kernel
theorem dX7_undo_96 : decode cX7_undo 96 = .ok (.imul, 1) := by decide +kernel
theorem dX7_undo_97 : decode cX7_undo 97 = .ok (.iadd, 1) := by decide +kernel
theorem dX7_undo_98 : decode cX7_undo 98 = .ok (.iaload, 1) := by decide +kernel
theorem dX7_undo_99 : decode cX7_undo 99 = .ok (.iastore, 1) := by decide +kernel
theorem dX7_undo_100 : decode cX7_undo 100 = .ok (.aload_n 0, 1) := by decide +kernel
theorem dX7_undo_101 : decode cX7_undo 101 = .ok (.getfield 28, 3) := by decide +kernel
theorem dX7_undo_104 : decode cX7_undo 104 = .ok (.iload_n 2, 1) := by decide +kernel
theorem dX7_undo_105 : decode cX7_undo 105 = .ok (.aload_n 0, 1) := by decide +kernel
theorem dX7_undo_106 : decode cX7_undo 106 = .ok (.getfield 34, 3) := by decide +kernel
theorem dX7_undo_109 : decode cX7_undo 109 = .ok (.iload_n 1, 1) := by decide +kernel
theorem dX7_undo_110 : decode cX7_undo 110 = .ok (.iconst 4, 1) := by decide +kernel
theorem dX7_undo_111 : decode cX7_undo 111 = .ok (.iadd, 1) := by decide +kernel
theorem dX7_undo_112 : decode cX7_undo 112 = .ok (.iconst 5, 1) := by decide +kernel
theorem dX7_undo_113 : decode cX7_undo 113 = .ok (.iload_n 2, 1) := by decide +kernel
theorem dX7_undo_114 : decode cX7_undo 114 = .ok (.imul, 1) := by decide +kernel
theorem dX7_undo_115 : decode cX7_undo 115 = .ok (.iadd, 1) := by decide +kernel
theorem dX7_undo_116 : decode cX7_undo 116 = .ok (.iaload, 1) := by decide +kernel
theorem dX7_undo_117 : decode cX7_undo 117 = .ok (.iastore, 1) := by decide +kernel
theorem dX7_undo_118 : decode cX7_undo 118 = .ok (.aload_n 0, 1) := by decide +kernel
theorem dX7_undo_119 : decode cX7_undo 119 = .ok (.getfield 31, 3) := by decide +kernel
theorem dX7_undo_122 : decode cX7_undo 122 = .ok (.iload_n 2, 1) := by decide +kernel
theorem dX7_undo_123 : decode cX7_undo 123 = .ok (.aload_n 0, 1) := by decide +kernel
theorem dX7_undo_124 : decode cX7_undo 124 = .ok (.getfield 34, 3) := by decide +kernel
theorem dX7_undo_127 : decode cX7_undo 127 = .ok (.iload_n 1, 1) := by decide +kernel
theorem dX7_undo_128 : decode cX7_undo 128 = .ok (.iconst 5, 1) := by decide +kernel
theorem dX7_undo_129 : decode cX7_undo 129 = .ok (.iadd, 1) := by decide +kernel
theorem dX7_undo_130 : decode cX7_undo 130 = .ok (.iconst 5, 1) := by decide +kernel
theorem dX7_undo_131 : decode cX7_undo 131 = .ok (.iload_n 2, 1) := by decide +kernel
theorem dX7_undo_132 : decode cX7_undo 132 = .ok (.imul, 1) := by decide +kernel
theorem dX7_undo_133 : decode cX7_undo 133 = .ok (.iadd, 1) := by decide +kernel
theorem dX7_undo_134 : decode cX7_undo 134 = .ok (.iaload, 1) := by decide +kernel
theorem dX7_undo_135 : decode cX7_undo 135 = .ok (.iastore, 1) := by decide +kernel
theorem dX7_undo_136 : decode cX7_undo 136 = .ok (.iinc 2 1, 3) := by decide +kernel
theorem dX7_undo_139 : decode cX7_undo 139 = .ok (.goto (-99), 3) := by decide +kernel
theorem dX7_undo_142 : decode cX7_undo 142 = .ok (.aload_n 0, 1) := by decide +kernel
theorem dX7_undo_143 : decode cX7_undo 143 = .ok (.iconst 0, 1) := by decide +kernel
theorem dX7_undo_144 : decode cX7_undo 144 = .ok (.putfield 98, 3) := by decide +kernel
theorem dX7_undo_147 : decode cX7_undo 147 = .ok (.iconst 1, 1) := by decide +kernel
theorem dX7_undo_148 : decode cX7_undo 148 = .ok (.ireturn, 1) := by decide +kernel
theorem dX7_isHour_0 : decode cX7_isHour 0 = .ok (.iload_n 0, 1) := by decide +kernel
theorem dX7_isHour_1 : decode cX7_isHour 1 = .ok (.i2l, 1) := by decide +kernel
theorem dX7_isHour_2 : decode cX7_isHour 2 = .ok (.lconst 1, 1) := by decide +kernel
theorem dX7_isHour_3 : decode cX7_isHour 3 = .ok (.ldc2_w 102, 3) := by decide +kernel
theorem dX7_isHour_6 : decode cX7_isHour 6 = .ok (.invokestatic 73, 3) := by decide +kernel
theorem dX7_isHour_9 : decode cX7_isHour 9 = .ok (.ireturn, 1) := by decide +kernel
theorem dX7_job_0 : decode cX7_job 0 = .ok (.iload_n 1, 1) := by decide +kernel
theorem dX7_job_1 : decode cX7_job 1 = .ok (.iconst 1, 1) := by decide +kernel
theorem dX7_job_2 : decode cX7_job 2 = .ok (.if_icmp .ne 10, 3) := by decide +kernel
theorem dX7_job_5 : decode cX7_job 5 = .ok (.iload_n 2, 1) := by decide +kernel
theorem dX7_job_6 : decode cX7_job 6 = .ok (.invokestatic 104, 3) := by decide +kernel
theorem dX7_job_9 : decode cX7_job 9 = .ok (.ifCond .eq 42, 3) := by decide +kernel
theorem dX7_job_12 : decode cX7_job 12 = .ok (.iload_n 1, 1) := by decide +kernel
theorem dX7_job_13 : decode cX7_job 13 = .ok (.iconst 2, 1) := by decide +kernel
theorem dX7_job_14 : decode cX7_job 14 = .ok (.if_icmp .ne 22, 3) := by decide +kernel
theorem dX7_job_17 : decode cX7_job 17 = .ok (.iload_n 2, 1) := by decide +kernel
theorem dX7_job_18 : decode cX7_job 18 = .ok (.invokestatic 104, 3) := by decide +kernel
theorem dX7_job_21 : decode cX7_job 21 = .ok (.ifCond .eq 30, 3) := by decide +kernel
theorem dX7_job_24 : decode cX7_job 24 = .ok (.iload_n 3, 1) := by decide +kernel
theorem dX7_job_25 : decode cX7_job 25 = .ok (.invokestatic 104, 3) := by decide +kernel
theorem dX7_job_28 : decode cX7_job 28 = .ok (.ifCond .eq 23, 3) := by decide +kernel
theorem dX7_job_31 : decode cX7_job 31 = .ok (.iload_n 2, 1) := by decide +kernel
theorem dX7_job_32 : decode cX7_job 32 = .ok (.iload_n 3, 1) := by decide +kernel
theorem dX7_job_33 : decode cX7_job 33 = .ok (.if_icmp .gt 18, 3) := by decide +kernel
theorem dX7_job_36 : decode cX7_job 36 = .ok (.iload_n 1, 1) := by decide +kernel
theorem dX7_job_37 : decode cX7_job 37 = .ok (.iconst 3, 1) := by decide +kernel
theorem dX7_job_38 : decode cX7_job 38 = .ok (.if_icmp .ne 17, 3) := by decide +kernel
theorem dX7_job_41 : decode cX7_job 41 = .ok (.iload_n 2, 1) := by decide +kernel
theorem dX7_job_42 : decode cX7_job 42 = .ok (.i2l, 1) := by decide +kernel
theorem dX7_job_43 : decode cX7_job 43 = .ok (.lconst 0, 1) := by decide +kernel
theorem dX7_job_44 : decode cX7_job 44 = .ok (.lconst 1, 1) := by decide +kernel
theorem dX7_job_45 : decode cX7_job 45 = .ok (.invokestatic 73, 3) := by decide +kernel
theorem dX7_job_48 : decode cX7_job 48 = .ok (.ifCond .ne 7, 3) := by decide +kernel
theorem dX7_job_51 : decode cX7_job 51 = .ok (.iconst 1, 1) := by decide +kernel
theorem dX7_job_52 : decode cX7_job 52 = .ok (.goto 4, 3) := by decide +kernel
theorem dX7_job_55 : decode cX7_job 55 = .ok (.iconst 0, 1) := by decide +kernel
theorem dX7_job_56 : decode cX7_job 56 = .ok (.istore 4, 2) := by decide +kernel
theorem dX7_job_58 : decode cX7_job 58 = .ok (.iload_n 1, 1) := by decide +kernel
theorem dX7_job_59 : decode cX7_job 59 = .ok (.i2l, 1) := by decide +kernel
theorem dX7_job_60 : decode cX7_job 60 = .ok (.lconst 0, 1) := by decide +kernel
theorem dX7_job_61 : decode cX7_job 61 = .ok (.ldc2_w 107, 3) := by decide +kernel
theorem dX7_job_64 : decode cX7_job 64 = .ok (.invokestatic 73, 3) := by decide +kernel
theorem dX7_job_67 : decode cX7_job 67 = .ok (.ifCond .eq 8, 3) := by decide +kernel
theorem dX7_job_70 : decode cX7_job 70 = .ok (.iload 4, 2) := by decide +kernel
theorem dX7_job_72 : decode cX7_job 72 = .ok (.ifCond .eq 5, 3) := by decide +kernel
theorem dX7_job_75 : decode cX7_job 75 = .ok (.iconst (-1), 1) := by decide +kernel
theorem dX7_job_76 : decode cX7_job 76 = .ok (.ireturn, 1) := by decide +kernel
theorem dX7_job_77 : decode cX7_job 77 = .ok (.aload_n 0, 1) := by decide +kernel
theorem dX7_job_78 : decode cX7_job 78 = .ok (.getfield 91, 3) := by decide +kernel
theorem dX7_job_81 : decode cX7_job 81 = .ok (.bipush 10, 2) := by decide +kernel
theorem dX7_job_83 : decode cX7_job 83 = .ok (.if_icmp .ne 6, 3) := by decide +kernel
theorem dX7_job_86 : decode cX7_job 86 = .ok (.bipush (-2), 2) := by decide +kernel
theorem dX7_job_88 : decode cX7_job 88 = .ok (.ireturn, 1) := by decide +kernel
theorem dX7_job_89 : decode cX7_job 89 = .ok (.aload_n 0, 1) := by decide +kernel
theorem dX7_job_90 : decode cX7_job 90 = .ok (.invokevirtual 109, 3) := by decide +kernel
theorem dX7_job_93 : decode cX7_job 93 = .ok (.aload_n 0, 1) := by decide +kernel
theorem dX7_job_94 : decode cX7_job 94 = .ok (.getfield 19, 3) := by decide +kernel
theorem dX7_job_97 : decode cX7_job 97 = .ok (.aload_n 0, 1) := by decide +kernel
theorem dX7_job_98 : decode cX7_job 98 = .ok (.getfield 91, 3) := by decide +kernel
theorem dX7_job_101 : decode cX7_job 101 = .ok (.iload_n 1, 1) := by decide +kernel
theorem dX7_job_102 : decode cX7_job 102 = .ok (.iastore, 1) := by decide +kernel
theorem dX7_job_103 : decode cX7_job 103 = .ok (.aload_n 0, 1) := by decide +kernel
theorem dX7_job_104 : decode cX7_job 104 = .ok (.getfield 22, 3) := by decide +kernel
theorem dX7_job_107 : decode cX7_job 107 = .ok (.aload_n 0, 1) := by decide +kernel
theorem dX7_job_108 : decode cX7_job 108 = .ok (.getfield 91, 3) := by decide +kernel
theorem dX7_job_111 : decode cX7_job 111 = .ok (.iload_n 1, 1) := by decide +kernel
theorem dX7_job_112 : decode cX7_job 112 = .ok (.iconst 2, 1) := by decide +kernel
theorem dX7_job_113 : decode cX7_job 113 = .ok (.if_icmp .ne 7, 3) := by decide +kernel
theorem dX7_job_116 : decode cX7_job 116 = .ok (.iload_n 2, 1) := by decide +kernel
theorem dX7_job_117 : decode cX7_job 117 = .ok (.goto 5, 3) := by decide +kernel
theorem dX7_job_120 : decode cX7_job 120 = .ok (.bipush (-3), 2) := by decide +kernel
theorem dX7_job_122 : decode cX7_job 122 = .ok (.iastore, 1) := by decide +kernel
theorem dX7_job_123 : decode cX7_job 123 = .ok (.aload_n 0, 1) := by decide +kernel
theorem dX7_job_124 : decode cX7_job 124 = .ok (.getfield 25, 3) := by decide +kernel
theorem dX7_job_127 : decode cX7_job 127 = .ok (.aload_n 0, 1) := by decide +kernel
theorem dX7_job_128 : decode cX7_job 128 = .ok (.getfield 91, 3) := by decide +kernel
theorem dX7_job_131 : decode cX7_job 131 = .ok (.iload_n 1, 1) := by decide +kernel
theorem dX7_job_132 : decode cX7_job 132 = .ok (.iconst 1, 1) := by decide +kernel
theorem dX7_job_133 : decode cX7_job 133 = .ok (.if_icmp .ne 7, 3) := by decide +kernel
theorem dX7_job_136 : decode cX7_job 136 = .ok (.iload_n 2, 1) := by decide +kernel
theorem dX7_job_137 : decode cX7_job 137 = .ok (.goto 14, 3) := by decide +kernel
theorem dX7_job_140 : decode cX7_job 140 = .ok (.iload_n 1, 1) := by decide +kernel
theorem dX7_job_141 : decode cX7_job 141 = .ok (.iconst 2, 1) := by decide +kernel
theorem dX7_job_142 : decode cX7_job 142 = .ok (.if_icmp .ne 7, 3) := by decide +kernel
theorem dX7_job_145 : decode cX7_job 145 = .ok (.iload_n 3, 1) := by decide +kernel
theorem dX7_job_146 : decode cX7_job 146 = .ok (.goto 5, 3) := by decide +kernel
theorem dX7_job_149 : decode cX7_job 149 = .ok (.bipush (-3), 2) := by decide +kernel
theorem dX7_job_151 : decode cX7_job 151 = .ok (.iastore, 1) := by decide +kernel
theorem dX7_job_152 : decode cX7_job 152 = .ok (.aload_n 0, 1) := by decide +kernel
theorem dX7_job_153 : decode cX7_job 153 = .ok (.getfield 28, 3) := by decide +kernel
theorem dX7_job_156 : decode cX7_job 156 = .ok (.aload_n 0, 1) := by decide +kernel
theorem dX7_job_157 : decode cX7_job 157 = .ok (.getfield 91, 3) := by decide +kernel
theorem dX7_job_160 : decode cX7_job 160 = .ok (.iload_n 1, 1) := by decide +kernel
theorem dX7_job_161 : decode cX7_job 161 = .ok (.iconst 3, 1) := by decide +kernel
theorem dX7_job_162 : decode cX7_job 162 = .ok (.if_icmp .ne 7, 3) := by decide +kernel
theorem dX7_job_165 : decode cX7_job 165 = .ok (.iload_n 2, 1) := by decide +kernel
theorem dX7_job_166 : decode cX7_job 166 = .ok (.goto 5, 3) := by decide +kernel
theorem dX7_job_169 : decode cX7_job 169 = .ok (.bipush (-3), 2) := by decide +kernel
theorem dX7_job_171 : decode cX7_job 171 = .ok (.iastore, 1) := by decide +kernel
theorem dX7_job_172 : decode cX7_job 172 = .ok (.aload_n 0, 1) := by decide +kernel
theorem dX7_job_173 : decode cX7_job 173 = .ok (.getfield 31, 3) := by decide +kernel
theorem dX7_job_176 : decode cX7_job 176 = .ok (.aload_n 0, 1) := by decide +kernel
theorem dX7_job_177 : decode cX7_job 177 = .ok (.getfield 91, 3) := by decide +kernel
theorem dX7_job_180 : decode cX7_job 180 = .ok (.iconst 0, 1) := by decide +kernel
theorem dX7_job_181 : decode cX7_job 181 = .ok (.iastore, 1) := by decide +kernel
theorem dX7_job_182 : decode cX7_job 182 = .ok (.aload_n 0, 1) := by decide +kernel
theorem dX7_job_183 : decode cX7_job 183 = .ok (.dup, 1) := by decide +kernel
theorem dX7_job_184 : decode cX7_job 184 = .ok (.getfield 91, 3) := by decide +kernel
theorem dX7_job_187 : decode cX7_job 187 = .ok (.iconst 1, 1) := by decide +kernel
theorem dX7_job_188 : decode cX7_job 188 = .ok (.iadd, 1) := by decide +kernel
theorem dX7_job_189 : decode cX7_job 189 = .ok (.putfield 91, 3) := by decide +kernel
theorem dX7_job_192 : decode cX7_job 192 = .ok (.aload_n 0, 1) := by decide +kernel
theorem dX7_job_193 : decode cX7_job 193 = .ok (.getfield 91, 3) := by decide +kernel
theorem dX7_job_196 : decode cX7_job 196 = .ok (.iconst 1, 1) := by decide +kernel
theorem dX7_job_197 : decode cX7_job 197 = .ok (.isub, 1) := by decide +kernel
theorem dX7_job_198 : decode cX7_job 198 = .ok (.ireturn, 1) := by decide +kernel
theorem dX7_layBehind_0 : decode cX7_layBehind 0 = .ok (.iconst 0, 1) := by decide +kernel
theorem dX7_layBehind_1 : decode cX7_layBehind 1 = .ok (.istore_n 1, 1) := by decide +kernel
theorem dX7_layBehind_2 : decode cX7_layBehind 2 = .ok (.iload_n 1, 1) := by decide +kernel
theorem dX7_layBehind_3 : decode cX7_layBehind 3 = .ok (.bipush 10, 2) := by decide +kernel
theorem dX7_layBehind_5 : decode cX7_layBehind 5 = .ok (.if_icmp .ge 33, 3) := by decide +kernel
theorem dX7_layBehind_8 : decode cX7_layBehind 8 = .ok (.aload_n 0, 1) := by decide +kernel
theorem dX7_layBehind_9 : decode cX7_layBehind 9 = .ok (.getfield 43, 3) := by decide +kernel
theorem dX7_layBehind_12 : decode cX7_layBehind 12 = .ok (.iload_n 1, 1) := by decide +kernel
theorem dX7_layBehind_13 : decode cX7_layBehind 13 = .ok (.iload_n 1, 1) := by decide +kernel
theorem dX7_layBehind_14 : decode cX7_layBehind 14 = .ok (.aload_n 0, 1) := by decide +kernel
theorem dX7_layBehind_15 : decode cX7_layBehind 15 = .ok (.getfield 91, 3) := by decide +kernel
theorem dX7_layBehind_18 : decode cX7_layBehind 18 = .ok (.if_icmp .ge 12, 3) := by decide +kernel
theorem dX7_layBehind_21 : decode cX7_layBehind 21 = .ok (.aload_n 0, 1) := by decide +kernel
theorem dX7_layBehind_22 : decode cX7_layBehind 22 = .ok (.getfield 31, 3) := by decide +kernel
theorem dX7_layBehind_25 : decode cX7_layBehind 25 = .ok (.iload_n 1, 1) := by decide +kernel
theorem dX7_layBehind_26 : decode cX7_layBehind 26 = .ok (.iaload, 1) := by decide +kernel
theorem dX7_layBehind_27 : decode cX7_layBehind 27 = .ok (.goto 4, 3) := by decide +kernel
theorem dX7_layBehind_30 : decode cX7_layBehind 30 = .ok (.iconst 0, 1) := by decide +kernel
theorem dX7_layBehind_31 : decode cX7_layBehind 31 = .ok (.iastore, 1) := by decide +kernel
theorem dX7_layBehind_32 : decode cX7_layBehind 32 = .ok (.iinc 1 1, 3) := by decide +kernel
theorem dX7_layBehind_35 : decode cX7_layBehind 35 = .ok (.goto (-33), 3) := by decide +kernel
theorem dX7_layBehind_38 : decode cX7_layBehind 38 = .ok (.iconst 0, 1) := by decide +kernel
theorem dX7_layBehind_39 : decode cX7_layBehind 39 = .ok (.istore_n 1, 1) := by decide +kernel
theorem dX7_layBehind_40 : decode cX7_layBehind 40 = .ok (.iload_n 1, 1) := by decide +kernel
theorem dX7_layBehind_41 : decode cX7_layBehind 41 = .ok (.aload_n 0, 1) := by decide +kernel
theorem dX7_layBehind_42 : decode cX7_layBehind 42 = .ok (.getfield 91, 3) := by decide +kernel
theorem dX7_layBehind_45 : decode cX7_layBehind 45 = .ok (.if_icmp .ge 58, 3) := by decide +kernel
theorem dX7_layBehind_48 : decode cX7_layBehind 48 = .ok (.iconst 0, 1) := by decide +kernel
theorem dX7_layBehind_49 : decode cX7_layBehind 49 = .ok (.istore_n 2, 1) := by decide +kernel
theorem dX7_layBehind_50 : decode cX7_layBehind 50 = .ok (.iload_n 2, 1) := by decide +kernel
theorem dX7_layBehind_51 : decode cX7_layBehind 51 = .ok (.aload_n 0, 1) := by decide +kernel
theorem dX7_layBehind_52 : decode cX7_layBehind 52 = .ok (.getfield 91, 3) := by decide +kernel
theorem dX7_layBehind_55 : decode cX7_layBehind 55 = .ok (.if_icmp .ge 42, 3) := by decide +kernel
theorem dX7_layBehind_58 : decode cX7_layBehind 58 = .ok (.aload_n 0, 1) := by decide +kernel
theorem dX7_layBehind_59 : decode cX7_layBehind 59 = .ok (.getfield 43, 3) := by decide +kernel
theorem dX7_layBehind_62 : decode cX7_layBehind 62 = .ok (.iload_n 2, 1) := by decide +kernel
theorem dX7_layBehind_63 : decode cX7_layBehind 63 = .ok (.dup2, 1) := by decide +kernel
theorem dX7_layBehind_64 : decode cX7_layBehind 64 = .ok (.iaload, 1) := by decide +kernel
theorem dX7_layBehind_65 : decode cX7_layBehind 65 = .ok (.aload_n 0, 1) := by decide +kernel
theorem dX7_layBehind_66 : decode cX7_layBehind 66 = .ok (.getfield 43, 3) := by decide +kernel
theorem dX7_layBehind_69 : decode cX7_layBehind 69 = .ok (.iload_n 2, 1) := by decide +kernel
theorem dX7_layBehind_70 : decode cX7_layBehind 70 = .ok (.iaload, 1) := by decide +kernel
theorem dX7_layBehind_71 : decode cX7_layBehind 71 = .ok (.iload_n 1, 1) := by decide +kernel
theorem dX7_layBehind_72 : decode cX7_layBehind 72 = .ok (.ishr, 1) := by decide +kernel
theorem dX7_layBehind_73 : decode cX7_layBehind 73 = .ok (.iconst 1, 1) := by decide +kernel
theorem dX7_layBehind_74 : decode cX7_layBehind 74 = .ok (.iand, 1) := by decide +kernel
theorem dX7_layBehind_75 : decode cX7_layBehind 75 = .ok (.iconst 1, 1) := by decide +kernel
theorem dX7_layBehind_76 : decode cX7_layBehind 76 = .ok (.if_icmp .ne 12, 3) := by decide +kernel
theorem dX7_layBehind_79 : decode cX7_layBehind 79 = .ok (.aload_n 0, 1) := by decide +kernel
theorem dX7_layBehind_80 : decode cX7_layBehind 80 = .ok (.getfield 43, 3) := by decide +kernel
theorem dX7_layBehind_83 : decode cX7_layBehind 83 = .ok (.iload_n 1, 1) := by decide +kernel
theorem dX7_layBehind_84 : decode cX7_layBehind 84 = .ok (.iaload, 1) := by decide +kernel
theorem dX7_layBehind_85 : decode cX7_layBehind 85 = .ok (.goto 4, 3) := by decide +kernel
theorem dX7_layBehind_88 : decode cX7_layBehind 88 = .ok (.iconst 0, 1) := by decide +kernel
theorem dX7_layBehind_89 : decode cX7_layBehind 89 = .ok (.ior, 1) := by decide +kernel
theorem dX7_layBehind_90 : decode cX7_layBehind 90 = .ok (.iastore, 1) := by decide +kernel
theorem dX7_layBehind_91 : decode cX7_layBehind 91 = .ok (.iinc 2 1, 3) := by decide +kernel
theorem dX7_layBehind_94 : decode cX7_layBehind 94 = .ok (.goto (-44), 3) := by decide +kernel
theorem dX7_layBehind_97 : decode cX7_layBehind 97 = .ok (.iinc 1 1, 3) := by decide +kernel
theorem dX7_layBehind_100 : decode cX7_layBehind 100 = .ok (.goto (-60), 3) := by decide +kernel
theorem dX7_layBehind_103 : decode cX7_layBehind 103 = .ok (.return_, 1) := by decide +kernel
theorem dX7_isBehind_0 : decode cX7_isBehind 0 = .ok (.aload_n 0, 1) := by decide +kernel
theorem dX7_isBehind_1 : decode cX7_isBehind 1 = .ok (.getfield 43, 3) := by decide +kernel
theorem dX7_isBehind_4 : decode cX7_isBehind 4 = .ok (.iload_n 1, 1) := by decide +kernel
theorem dX7_isBehind_5 : decode cX7_isBehind 5 = .ok (.iaload, 1) := by decide +kernel
theorem dX7_isBehind_6 : decode cX7_isBehind 6 = .ok (.iload_n 2, 1) := by decide +kernel
theorem dX7_isBehind_7 : decode cX7_isBehind 7 = .ok (.ishr, 1) := by decide +kernel
theorem dX7_isBehind_8 : decode cX7_isBehind 8 = .ok (.iconst 1, 1) := by decide +kernel
theorem dX7_isBehind_9 : decode cX7_isBehind 9 = .ok (.iand, 1) := by decide +kernel
theorem dX7_isBehind_10 : decode cX7_isBehind 10 = .ok (.iconst 1, 1) := by decide +kernel
theorem dX7_isBehind_11 : decode cX7_isBehind 11 = .ok (.if_icmp .ne 7, 3) := by decide +kernel
theorem dX7_isBehind_14 : decode cX7_isBehind 14 = .ok (.iconst 1, 1) := by decide +kernel
theorem dX7_isBehind_15 : decode cX7_isBehind 15 = .ok (.goto 4, 3) := by decide +kernel
theorem dX7_isBehind_18 : decode cX7_isBehind 18 = .ok (.iconst 0, 1) := by decide +kernel
theorem dX7_isBehind_19 : decode cX7_isBehind 19 = .ok (.ireturn, 1) := by decide +kernel
theorem dX7_layRing_0 : decode cX7_layRing 0 = .ok (.aload_n 0, 1) := by decide +kernel
theorem dX7_layRing_1 : decode cX7_layRing 1 = .ok (.getfield 37, 3) := by decide +kernel
theorem dX7_layRing_4 : decode cX7_layRing 4 = .ok (.iconst 0, 1) := by decide +kernel
theorem dX7_layRing_5 : decode cX7_layRing 5 = .ok (.iload_n 1, 1) := by decide +kernel
theorem dX7_layRing_6 : decode cX7_layRing 6 = .ok (.iastore, 1) := by decide +kernel
theorem dX7_layRing_7 : decode cX7_layRing 7 = .ok (.aload_n 0, 1) := by decide +kernel
theorem dX7_layRing_8 : decode cX7_layRing 8 = .ok (.iconst 1, 1) := by decide +kernel
theorem dX7_layRing_9 : decode cX7_layRing 9 = .ok (.putfield 112, 3) := by decide +kernel
theorem dX7_layRing_12 : decode cX7_layRing 12 = .ok (.iload_n 1, 1) := by decide +kernel
theorem dX7_layRing_13 : decode cX7_layRing 13 = .ok (.iload_n 2, 1) := by decide +kernel
theorem dX7_layRing_14 : decode cX7_layRing 14 = .ok (.if_icmp .ne 4, 3) := by decide +kernel
theorem dX7_layRing_17 : decode cX7_layRing 17 = .ok (.return_, 1) := by decide +kernel
theorem dX7_layRing_18 : decode cX7_layRing 18 = .ok (.iconst 0, 1) := by decide +kernel
theorem dX7_layRing_19 : decode cX7_layRing 19 = .ok (.istore_n 3, 1) := by decide +kernel
theorem dX7_layRing_20 : decode cX7_layRing 20 = .ok (.iload_n 3, 1) := by decide +kernel
theorem dX7_layRing_21 : decode cX7_layRing 21 = .ok (.bipush 10, 2) := by decide +kernel
theorem dX7_layRing_23 : decode cX7_layRing 23 = .ok (.if_icmp .ge 26, 3) := by decide +kernel
theorem dX7_layRing_26 : decode cX7_layRing 26 = .ok (.aload_n 0, 1) := by decide +kernel
theorem dX7_layRing_27 : decode cX7_layRing 27 = .ok (.getfield 46, 3) := by decide +kernel
theorem dX7_layRing_30 : decode cX7_layRing 30 = .ok (.iload_n 3, 1) := by decide +kernel
theorem dX7_layRing_31 : decode cX7_layRing 31 = .ok (.iload_n 3, 1) := by decide +kernel
theorem dX7_layRing_32 : decode cX7_layRing 32 = .ok (.iload_n 1, 1) := by decide +kernel
theorem dX7_layRing_33 : decode cX7_layRing 33 = .ok (.if_icmp .ne 7, 3) := by decide +kernel
theorem dX7_layRing_36 : decode cX7_layRing 36 = .ok (.iconst 0, 1) := by decide +kernel
theorem dX7_layRing_37 : decode cX7_layRing 37 = .ok (.goto 5, 3) := by decide +kernel
theorem dX7_layRing_40 : decode cX7_layRing 40 = .ok (.bipush 99, 2) := by decide +kernel
theorem dX7_layRing_42 : decode cX7_layRing 42 = .ok (.iastore, 1) := by decide +kernel
theorem dX7_layRing_43 : decode cX7_layRing 43 = .ok (.iinc 3 1, 3) := by decide +kernel
theorem dX7_layRing_46 : decode cX7_layRing 46 = .ok (.goto (-26), 3) := by decide +kernel
theorem dX7_layRing_49 : decode cX7_layRing 49 = .ok (.iconst 0, 1) := by decide +kernel
theorem dX7_layRing_50 : decode cX7_layRing 50 = .ok (.istore_n 3, 1) := by decide +kernel
theorem dX7_layRing_51 : decode cX7_layRing 51 = .ok (.iload_n 3, 1) := by decide +kernel
theorem dX7_layRing_52 : decode cX7_layRing 52 = .ok (.bipush 10, 2) := by decide +kernel
theorem dX7_layRing_54 : decode cX7_layRing 54 = .ok (.if_icmp .ge 96, 3) := by decide +kernel
theorem dX7_layRing_57 : decode cX7_layRing 57 = .ok (.iconst 0, 1) := by decide +kernel
theorem dX7_layRing_58 : decode cX7_layRing 58 = .ok (.istore 4, 2) := by decide +kernel
theorem dX7_layRing_60 : decode cX7_layRing 60 = .ok (.iload 4, 2) := by decide +kernel
theorem dX7_layRing_62 : decode cX7_layRing 62 = .ok (.aload_n 0, 1) := by decide +kernel
theorem dX7_layRing_63 : decode cX7_layRing 63 = .ok (.getfield 91, 3) := by decide +kernel
theorem dX7_layRing_66 : decode cX7_layRing 66 = .ok (.if_icmp .ge 78, 3) := by decide +kernel
theorem dX7_layRing_69 : decode cX7_layRing 69 = .ok (.iconst 0, 1) := by decide +kernel
theorem dX7_layRing_70 : decode cX7_layRing 70 = .ok (.istore 5, 2) := by decide +kernel
theorem dX7_layRing_72 : decode cX7_layRing 72 = .ok (.iload 5, 2) := by decide +kernel
theorem dX7_layRing_74 : decode cX7_layRing 74 = .ok (.aload_n 0, 1) := by decide +kernel
theorem dX7_layRing_75 : decode cX7_layRing 75 = .ok (.getfield 91, 3) := by decide +kernel
theorem dX7_layRing_78 : decode cX7_layRing 78 = .ok (.if_icmp .ge 60, 3) := by decide +kernel
theorem dX7_layRing_81 : decode cX7_layRing 81 = .ok (.aload_n 0, 1) := by decide +kernel
theorem dX7_layRing_82 : decode cX7_layRing 82 = .ok (.getfield 31, 3) := by decide +kernel
theorem dX7_layRing_85 : decode cX7_layRing 85 = .ok (.iload 4, 2) := by decide +kernel
theorem dX7_layRing_87 : decode cX7_layRing 87 = .ok (.iaload, 1) := by decide +kernel
theorem dX7_layRing_88 : decode cX7_layRing 88 = .ok (.iload 5, 2) := by decide +kernel
theorem dX7_layRing_90 : decode cX7_layRing 90 = .ok (.ishr, 1) := by decide +kernel
theorem dX7_layRing_91 : decode cX7_layRing 91 = .ok (.iconst 1, 1) := by decide +kernel
theorem dX7_layRing_92 : decode cX7_layRing 92 = .ok (.iand, 1) := by decide +kernel
theorem dX7_layRing_93 : decode cX7_layRing 93 = .ok (.iconst 1, 1) := by decide +kernel
theorem dX7_layRing_94 : decode cX7_layRing 94 = .ok (.if_icmp .ne 38, 3) := by decide +kernel
theorem dX7_layRing_97 : decode cX7_layRing 97 = .ok (.aload_n 0, 1) := by decide +kernel
theorem dX7_layRing_98 : decode cX7_layRing 98 = .ok (.getfield 46, 3) := by decide +kernel
theorem dX7_layRing_101 : decode cX7_layRing 101 = .ok (.iload 5, 2) := by decide +kernel
theorem dX7_layRing_103 : decode cX7_layRing 103 = .ok (.iaload, 1) := by decide +kernel
theorem dX7_layRing_104 : decode cX7_layRing 104 = .ok (.iconst 1, 1) := by decide +kernel
theorem dX7_layRing_105 : decode cX7_layRing 105 = .ok (.iadd, 1) := by decide +kernel
theorem dX7_layRing_106 : decode cX7_layRing 106 = .ok (.aload_n 0, 1) := by decide +kernel
theorem dX7_layRing_107 : decode cX7_layRing 107 = .ok (.getfield 46, 3) := by decide +kernel
theorem dX7_layRing_110 : decode cX7_layRing 110 = .ok (.iload 4, 2) := by decide +kernel
theorem dX7_layRing_112 : decode cX7_layRing 112 = .ok (.iaload, 1) := by decide +kernel
theorem dX7_layRing_113 : decode cX7_layRing 113 = .ok (.if_icmp .ge 19, 3) := by decide +kernel
theorem dX7_layRing_116 : decode cX7_layRing 116 = .ok (.aload_n 0, 1) := by decide +kernel
theorem dX7_layRing_117 : decode cX7_layRing 117 = .ok (.getfield 46, 3) := by decide +kernel
theorem dX7_layRing_120 : decode cX7_layRing 120 = .ok (.iload 4, 2) := by decide +kernel
theorem dX7_layRing_122 : decode cX7_layRing 122 = .ok (.aload_n 0, 1) := by decide +kernel
theorem dX7_layRing_123 : decode cX7_layRing 123 = .ok (.getfield 46, 3) := by decide +kernel
theorem dX7_layRing_126 : decode cX7_layRing 126 = .ok (.iload 5, 2) := by decide +kernel
theorem dX7_layRing_128 : decode cX7_layRing 128 = .ok (.iaload, 1) := by decide +kernel
theorem dX7_layRing_129 : decode cX7_layRing 129 = .ok (.iconst 1, 1) := by decide +kernel
theorem dX7_layRing_130 : decode cX7_layRing 130 = .ok (.iadd, 1) := by decide +kernel
theorem dX7_layRing_131 : decode cX7_layRing 131 = .ok (.iastore, 1) := by decide +kernel
theorem dX7_layRing_132 : decode cX7_layRing 132 = .ok (.iinc 5 1, 3) := by decide +kernel
theorem dX7_layRing_135 : decode cX7_layRing 135 = .ok (.goto (-63), 3) := by decide +kernel
theorem dX7_layRing_138 : decode cX7_layRing 138 = .ok (.iinc 4 1, 3) := by decide +kernel
theorem dX7_layRing_141 : decode cX7_layRing 141 = .ok (.goto (-81), 3) := by decide +kernel
theorem dX7_layRing_144 : decode cX7_layRing 144 = .ok (.iinc 3 1, 3) := by decide +kernel
theorem dX7_layRing_147 : decode cX7_layRing 147 = .ok (.goto (-96), 3) := by decide +kernel
theorem dX7_layRing_150 : decode cX7_layRing 150 = .ok (.iload_n 2, 1) := by decide +kernel
theorem dX7_layRing_151 : decode cX7_layRing 151 = .ok (.istore_n 3, 1) := by decide +kernel
theorem dX7_layRing_152 : decode cX7_layRing 152 = .ok (.iload_n 3, 1) := by decide +kernel
theorem dX7_layRing_153 : decode cX7_layRing 153 = .ok (.iload_n 1, 1) := by decide +kernel
theorem dX7_layRing_154 : decode cX7_layRing 154 = .ok (.if_icmp .eq 94, 3) := by decide +kernel
theorem dX7_layRing_157 : decode cX7_layRing 157 = .ok (.aload_n 0, 1) := by decide +kernel
theorem dX7_layRing_158 : decode cX7_layRing 158 = .ok (.getfield 37, 3) := by decide +kernel
theorem dX7_layRing_161 : decode cX7_layRing 161 = .ok (.aload_n 0, 1) := by decide +kernel
theorem dX7_layRing_162 : decode cX7_layRing 162 = .ok (.getfield 112, 3) := by decide +kernel
theorem dX7_layRing_165 : decode cX7_layRing 165 = .ok (.iload_n 3, 1) := by decide +kernel
theorem dX7_layRing_166 : decode cX7_layRing 166 = .ok (.iastore, 1) := by decide +kernel
theorem dX7_layRing_167 : decode cX7_layRing 167 = .ok (.aload_n 0, 1) := by decide +kernel
theorem dX7_layRing_168 : decode cX7_layRing 168 = .ok (.dup, 1) := by decide +kernel
theorem dX7_layRing_169 : decode cX7_layRing 169 = .ok (.getfield 112, 3) := by decide +kernel
theorem dX7_layRing_172 : decode cX7_layRing 172 = .ok (.iconst 1, 1) := by decide +kernel
theorem dX7_layRing_173 : decode cX7_layRing 173 = .ok (.iadd, 1) := by decide +kernel
theorem dX7_layRing_174 : decode cX7_layRing 174 = .ok (.putfield 112, 3) := by decide +kernel
theorem dX7_layRing_177 : decode cX7_layRing 177 = .ok (.bipush (-3), 2) := by decide +kernel
theorem dX7_layRing_179 : decode cX7_layRing 179 = .ok (.istore 4, 2) := by decide +kernel
theorem dX7_layRing_181 : decode cX7_layRing 181 = .ok (.aload_n 0, 1) := by decide +kernel
theorem dX7_layRing_182 : decode cX7_layRing 182 = .ok (.getfield 91, 3) := by decide +kernel
theorem dX7_layRing_185 : decode cX7_layRing 185 = .ok (.iconst 1, 1) := by decide +kernel
theorem dX7_layRing_186 : decode cX7_layRing 186 = .ok (.isub, 1) := by decide +kernel
theorem dX7_layRing_187 : decode cX7_layRing 187 = .ok (.istore 5, 2) := by decide +kernel
theorem dX7_layRing_189 : decode cX7_layRing 189 = .ok (.iload 5, 2) := by decide +kernel
theorem dX7_layRing_191 : decode cX7_layRing 191 = .ok (.ifCond .lt 51, 3) := by decide +kernel
theorem dX7_layRing_194 : decode cX7_layRing 194 = .ok (.aload_n 0, 1) := by decide +kernel
theorem dX7_layRing_195 : decode cX7_layRing 195 = .ok (.getfield 31, 3) := by decide +kernel
theorem dX7_layRing_198 : decode cX7_layRing 198 = .ok (.iload_n 3, 1) := by decide +kernel
theorem dX7_layRing_199 : decode cX7_layRing 199 = .ok (.iaload, 1) := by decide +kernel
theorem dX7_layRing_200 : decode cX7_layRing 200 = .ok (.iload 5, 2) := by decide +kernel
theorem dX7_layRing_202 : decode cX7_layRing 202 = .ok (.ishr, 1) := by decide +kernel
theorem dX7_layRing_203 : decode cX7_layRing 203 = .ok (.iconst 1, 1) := by decide +kernel
theorem dX7_layRing_204 : decode cX7_layRing 204 = .ok (.iand, 1) := by decide +kernel
theorem dX7_layRing_205 : decode cX7_layRing 205 = .ok (.iconst 1, 1) := by decide +kernel
theorem dX7_layRing_206 : decode cX7_layRing 206 = .ok (.if_icmp .ne 26, 3) := by decide +kernel
theorem dX7_layRing_209 : decode cX7_layRing 209 = .ok (.aload_n 0, 1) := by decide +kernel
theorem dX7_layRing_210 : decode cX7_layRing 210 = .ok (.getfield 46, 3) := by decide +kernel
theorem dX7_layRing_213 : decode cX7_layRing 213 = .ok (.iload 5, 2) := by decide +kernel
theorem dX7_layRing_215 : decode cX7_layRing 215 = .ok (.iaload, 1) := by decide +kernel
theorem dX7_layRing_216 : decode cX7_layRing 216 = .ok (.aload_n 0, 1) := by decide +kernel
theorem dX7_layRing_217 : decode cX7_layRing 217 = .ok (.getfield 46, 3) := by decide +kernel
theorem dX7_layRing_220 : decode cX7_layRing 220 = .ok (.iload_n 3, 1) := by decide +kernel
theorem dX7_layRing_221 : decode cX7_layRing 221 = .ok (.iaload, 1) := by decide +kernel
theorem dX7_layRing_222 : decode cX7_layRing 222 = .ok (.iconst 1, 1) := by decide +kernel
theorem dX7_layRing_223 : decode cX7_layRing 223 = .ok (.isub, 1) := by decide +kernel
theorem dX7_layRing_224 : decode cX7_layRing 224 = .ok (.if_icmp .ne 8, 3) := by decide +kernel
theorem dX7_layRing_227 : decode cX7_layRing 227 = .ok (.iload 5, 2) := by decide +kernel
theorem dX7_layRing_229 : decode cX7_layRing 229 = .ok (.goto 5, 3) := by decide +kernel
theorem dX7_layRing_232 : decode cX7_layRing 232 = .ok (.iload 4, 2) := by decide +kernel
theorem dX7_layRing_234 : decode cX7_layRing 234 = .ok (.istore 4, 2) := by decide +kernel
theorem dX7_layRing_236 : decode cX7_layRing 236 = .ok (.iinc 5 (-1), 3) := by decide +kernel
theorem dX7_layRing_239 : decode cX7_layRing 239 = .ok (.goto (-50), 3) := by decide +kernel
theorem dX7_layRing_242 : decode cX7_layRing 242 = .ok (.iload 4, 2) := by decide +kernel
theorem dX7_layRing_244 : decode cX7_layRing 244 = .ok (.istore_n 3, 1) := by decide +kernel
theorem dX7_layRing_245 : decode cX7_layRing 245 = .ok (.goto (-93), 3) := by decide +kernel
theorem dX7_layRing_248 : decode cX7_layRing 248 = .ok (.return_, 1) := by decide +kernel
theorem dX7_wouldRing_0 : decode cX7_wouldRing 0 = .ok (.aload_n 0, 1) := by decide +kernel
theorem dX7_wouldRing_1 : decode cX7_wouldRing 1 = .ok (.invokevirtual 115, 3) := by decide +kernel
theorem dX7_wouldRing_4 : decode cX7_wouldRing 4 = .ok (.iload_n 1, 1) := by decide +kernel
theorem dX7_wouldRing_5 : decode cX7_wouldRing 5 = .ok (.iload_n 2, 1) := by decide +kernel
theorem dX7_wouldRing_6 : decode cX7_wouldRing 6 = .ok (.if_icmp .eq 12, 3) := by decide +kernel
theorem dX7_wouldRing_9 : decode cX7_wouldRing 9 = .ok (.aload_n 0, 1) := by decide +kernel
theorem dX7_wouldRing_10 : decode cX7_wouldRing 10 = .ok (.iload_n 2, 1) := by decide +kernel
theorem dX7_wouldRing_11 : decode cX7_wouldRing 11 = .ok (.iload_n 1, 1) := by decide +kernel
theorem dX7_wouldRing_12 : decode cX7_wouldRing 12 = .ok (.invokevirtual 118, 3) := by decide +kernel
theorem dX7_wouldRing_15 : decode cX7_wouldRing 15 = .ok (.ifCond .eq 7, 3) := by decide +kernel
theorem dX7_wouldRing_18 : decode cX7_wouldRing 18 = .ok (.iconst 1, 1) := by decide +kernel
theorem dX7_wouldRing_19 : decode cX7_wouldRing 19 = .ok (.goto 4, 3) := by decide +kernel
theorem dX7_wouldRing_22 : decode cX7_wouldRing 22 = .ok (.iconst 0, 1) := by decide +kernel
theorem dX7_wouldRing_23 : decode cX7_wouldRing 23 = .ok (.ireturn, 1) := by decide +kernel
theorem dX7_after_0 : decode cX7_after 0 = .ok (.aload_n 0, 1) := by decide +kernel
theorem dX7_after_1 : decode cX7_after 1 = .ok (.iload_n 1, 1) := by decide +kernel
theorem dX7_after_2 : decode cX7_after 2 = .ok (.invokevirtual 122, 3) := by decide +kernel
theorem dX7_after_5 : decode cX7_after 5 = .ok (.ifCond .eq 11, 3) := by decide +kernel
theorem dX7_after_8 : decode cX7_after 8 = .ok (.aload_n 0, 1) := by decide +kernel
theorem dX7_after_9 : decode cX7_after 9 = .ok (.iload_n 2, 1) := by decide +kernel
theorem dX7_after_10 : decode cX7_after 10 = .ok (.invokevirtual 122, 3) := by decide +kernel
theorem dX7_after_13 : decode cX7_after 13 = .ok (.ifCond .ne 5, 3) := by decide +kernel
theorem dX7_after_16 : decode cX7_after 16 = .ok (.iconst (-1), 1) := by decide +kernel
theorem dX7_after_17 : decode cX7_after 17 = .ok (.ireturn, 1) := by decide +kernel
theorem dX7_after_18 : decode cX7_after 18 = .ok (.aload_n 0, 1) := by decide +kernel
theorem dX7_after_19 : decode cX7_after 19 = .ok (.getfield 31, 3) := by decide +kernel
theorem dX7_after_22 : decode cX7_after 22 = .ok (.iload_n 1, 1) := by decide +kernel
theorem dX7_after_23 : decode cX7_after 23 = .ok (.iaload, 1) := by decide +kernel
theorem dX7_after_24 : decode cX7_after 24 = .ok (.iload_n 2, 1) := by decide +kernel
theorem dX7_after_25 : decode cX7_after 25 = .ok (.ishr, 1) := by decide +kernel
theorem dX7_after_26 : decode cX7_after 26 = .ok (.iconst 1, 1) := by decide +kernel
theorem dX7_after_27 : decode cX7_after 27 = .ok (.iand, 1) := by decide +kernel
theorem dX7_after_28 : decode cX7_after 28 = .ok (.iconst 1, 1) := by decide +kernel
theorem dX7_after_29 : decode cX7_after 29 = .ok (.if_icmp .ne 5, 3) := by decide +kernel
theorem dX7_after_32 : decode cX7_after 32 = .ok (.iconst 0, 1) := by decide +kernel
theorem dX7_after_33 : decode cX7_after 33 = .ok (.ireturn, 1) := by decide +kernel
theorem dX7_after_34 : decode cX7_after 34 = .ok (.aload_n 0, 1) := by decide +kernel
theorem dX7_after_35 : decode cX7_after 35 = .ok (.iload_n 1, 1) := by decide +kernel
theorem dX7_after_36 : decode cX7_after 36 = .ok (.iload_n 2, 1) := by decide +kernel
theorem dX7_after_37 : decode cX7_after 37 = .ok (.invokevirtual 125, 3) := by decide +kernel
theorem dX7_after_40 : decode cX7_after 40 = .ok (.ifCond .eq 12, 3) := by decide +kernel
theorem dX7_after_43 : decode cX7_after 43 = .ok (.aload_n 0, 1) := by decide +kernel
theorem dX7_after_44 : decode cX7_after 44 = .ok (.iload_n 1, 1) := by decide +kernel
theorem dX7_after_45 : decode cX7_after 45 = .ok (.iload_n 2, 1) := by decide +kernel
theorem dX7_after_46 : decode cX7_after 46 = .ok (.invokevirtual 128, 3) := by decide +kernel
theorem dX7_after_49 : decode cX7_after 49 = .ok (.bipush (-4), 2) := by decide +kernel
theorem dX7_after_51 : decode cX7_after 51 = .ok (.ireturn, 1) := by decide +kernel
theorem dX7_after_52 : decode cX7_after 52 = .ok (.aload_n 0, 1) := by decide +kernel
theorem dX7_after_53 : decode cX7_after 53 = .ok (.invokevirtual 109, 3) := by decide +kernel
theorem dX7_after_56 : decode cX7_after 56 = .ok (.aload_n 0, 1) := by decide +kernel
theorem dX7_after_57 : decode cX7_after 57 = .ok (.getfield 31, 3) := by decide +kernel
theorem dX7_after_60 : decode cX7_after 60 = .ok (.iload_n 1, 1) := by decide +kernel
theorem dX7_after_61 : decode cX7_after 61 = .ok (.dup2, 1) := by decide +kernel
theorem dX7_after_62 : decode cX7_after 62 = .ok (.iaload, 1) := by decide +kernel
theorem dX7_after_63 : decode cX7_after 63 = .ok (.iconst 1, 1) := by decide +kernel
theorem dX7_after_64 : decode cX7_after 64 = .ok (.iload_n 2, 1) := by decide +kernel
theorem dX7_after_65 : decode cX7_after 65 = .ok (.ishl, 1) := by decide +kernel
theorem dX7_after_66 : decode cX7_after 66 = .ok (.ior, 1) := by decide +kernel
theorem dX7_after_67 : decode cX7_after 67 = .ok (.iastore, 1) := by decide +kernel
theorem dX7_after_68 : decode cX7_after 68 = .ok (.iconst 1, 1) := by decide +kernel
theorem dX7_after_69 : decode cX7_after 69 = .ok (.ireturn, 1) := by decide +kernel
theorem dX7_read_0 : decode cX7_read 0 = .ok (.aload_n 0, 1) := by decide +kernel
theorem dX7_read_1 : decode cX7_read 1 = .ok (.iload_n 1, 1) := by decide +kernel
theorem dX7_read_2 : decode cX7_read 2 = .ok (.invokevirtual 122, 3) := by decide +kernel
theorem dX7_read_5 : decode cX7_read 5 = .ok (.ifCond .eq 10, 3) := by decide +kernel
theorem dX7_read_8 : decode cX7_read 8 = .ok (.iload_n 2, 1) := by decide +kernel
theorem dX7_read_9 : decode cX7_read 9 = .ok (.invokestatic 77, 3) := by decide +kernel
theorem dX7_read_12 : decode cX7_read 12 = .ok (.ifCond .ne 5, 3) := by decide +kernel
theorem dX7_read_15 : decode cX7_read 15 = .ok (.iconst (-1), 1) := by decide +kernel
theorem dX7_read_16 : decode cX7_read 16 = .ok (.ireturn, 1) := by decide +kernel
theorem dX7_read_17 : decode cX7_read 17 = .ok (.aload_n 0, 1) := by decide +kernel
theorem dX7_read_18 : decode cX7_read 18 = .ok (.getfield 7, 3) := by decide +kernel
theorem dX7_read_21 : decode cX7_read 21 = .ok (.iload_n 2, 1) := by decide +kernel
theorem dX7_read_22 : decode cX7_read 22 = .ok (.iaload, 1) := by decide +kernel
theorem dX7_read_23 : decode cX7_read 23 = .ok (.ifCond .ge 6, 3) := by decide +kernel
theorem dX7_read_26 : decode cX7_read 26 = .ok (.bipush (-11), 2) := by decide +kernel
theorem dX7_read_28 : decode cX7_read 28 = .ok (.ireturn, 1) := by decide +kernel
theorem dX7_read_29 : decode cX7_read 29 = .ok (.iload 4, 2) := by decide +kernel
theorem dX7_read_31 : decode cX7_read 31 = .ok (.ifCond .ge 6, 3) := by decide +kernel
theorem dX7_read_34 : decode cX7_read 34 = .ok (.bipush (-13), 2) := by decide +kernel
theorem dX7_read_36 : decode cX7_read 36 = .ok (.ireturn, 1) := by decide +kernel
theorem dX7_read_37 : decode cX7_read 37 = .ok (.iload_n 3, 1) := by decide +kernel
theorem dX7_read_38 : decode cX7_read 38 = .ok (.ifCond .lt 20, 3) := by decide +kernel
theorem dX7_read_41 : decode cX7_read 41 = .ok (.iload_n 3, 1) := by decide +kernel
theorem dX7_read_42 : decode cX7_read 42 = .ok (.i2l, 1) := by decide +kernel
theorem dX7_read_43 : decode cX7_read 43 = .ok (.iload 4, 2) := by decide +kernel
theorem dX7_read_45 : decode cX7_read 45 = .ok (.i2l, 1) := by decide +kernel
theorem dX7_read_46 : decode cX7_read 46 = .ok (.ladd, 1) := by decide +kernel
theorem dX7_read_47 : decode cX7_read 47 = .ok (.aload_n 0, 1) := by decide +kernel
theorem dX7_read_48 : decode cX7_read 48 = .ok (.getfield 13, 3) := by decide +kernel
theorem dX7_read_51 : decode cX7_read 51 = .ok (.iload_n 2, 1) := by decide +kernel
theorem dX7_read_52 : decode cX7_read 52 = .ok (.iaload, 1) := by decide +kernel
theorem dX7_read_53 : decode cX7_read 53 = .ok (.i2l, 1) := by decide +kernel
theorem dX7_read_54 : decode cX7_read 54 = .ok (.lcmp, 1) := by decide +kernel
theorem dX7_read_55 : decode cX7_read 55 = .ok (.ifCond .le 6, 3) := by decide +kernel
theorem dX7_read_58 : decode cX7_read 58 = .ok (.bipush (-12), 2) := by decide +kernel
theorem dX7_read_60 : decode cX7_read 60 = .ok (.ireturn, 1) := by decide +kernel
theorem dX7_read_61 : decode cX7_read 61 = .ok (.aload_n 0, 1) := by decide +kernel
theorem dX7_read_62 : decode cX7_read 62 = .ok (.getfield 31, 3) := by decide +kernel
theorem dX7_read_65 : decode cX7_read 65 = .ok (.iload_n 1, 1) := by decide +kernel
theorem dX7_read_66 : decode cX7_read 66 = .ok (.iaload, 1) := by decide +kernel
theorem dX7_read_67 : decode cX7_read 67 = .ok (.istore 5, 2) := by decide +kernel
theorem dX7_read_69 : decode cX7_read 69 = .ok (.iconst 0, 1) := by decide +kernel
theorem dX7_read_70 : decode cX7_read 70 = .ok (.istore 6, 2) := by decide +kernel
theorem dX7_read_72 : decode cX7_read 72 = .ok (.iconst 0, 1) := by decide +kernel
theorem dX7_read_73 : decode cX7_read 73 = .ok (.istore 7, 2) := by decide +kernel
theorem dX7_read_75 : decode cX7_read 75 = .ok (.iload 7, 2) := by decide +kernel
theorem dX7_read_77 : decode cX7_read 77 = .ok (.iload 4, 2) := by decide +kernel
theorem dX7_read_79 : decode cX7_read 79 = .ok (.if_icmp .ge 97, 3) := by decide +kernel
theorem dX7_read_82 : decode cX7_read 82 = .ok (.iload 6, 2) := by decide +kernel
theorem dX7_read_84 : decode cX7_read 84 = .ok (.ifCond .ne 92, 3) := by decide +kernel
theorem dX7_read_87 : decode cX7_read 87 = .ok (.aload_n 0, 1) := by decide +kernel
theorem dX7_read_88 : decode cX7_read 88 = .ok (.getfield 16, 3) := by decide +kernel
theorem dX7_read_91 : decode cX7_read 91 = .ok (.bipush 16, 2) := by decide +kernel
theorem dX7_read_93 : decode cX7_read 93 = .ok (.iload_n 2, 1) := by decide +kernel
theorem dX7_read_94 : decode cX7_read 94 = .ok (.imul, 1) := by decide +kernel
theorem dX7_read_95 : decode cX7_read 95 = .ok (.iload_n 3, 1) := by decide +kernel
theorem dX7_read_96 : decode cX7_read 96 = .ok (.iadd, 1) := by decide +kernel
theorem dX7_read_97 : decode cX7_read 97 = .ok (.iload 7, 2) := by decide +kernel
theorem dX7_read_99 : decode cX7_read 99 = .ok (.iadd, 1) := by decide +kernel
theorem dX7_read_100 : decode cX7_read 100 = .ok (.iaload, 1) := by decide +kernel
theorem dX7_read_101 : decode cX7_read 101 = .ok (.istore 8, 2) := by decide +kernel
theorem dX7_read_103 : decode cX7_read 103 = .ok (.aload_n 0, 1) := by decide +kernel
theorem dX7_read_104 : decode cX7_read 104 = .ok (.iload 8, 2) := by decide +kernel
theorem dX7_read_106 : decode cX7_read 106 = .ok (.invokevirtual 122, 3) := by decide +kernel
theorem dX7_read_109 : decode cX7_read 109 = .ok (.ifCond .ne 10, 3) := by decide +kernel
theorem dX7_read_112 : decode cX7_read 112 = .ok (.bipush (-15), 2) := by decide +kernel
theorem dX7_read_114 : decode cX7_read 114 = .ok (.istore 6, 2) := by decide +kernel
theorem dX7_read_116 : decode cX7_read 116 = .ok (.goto 54, 3) := by decide +kernel
theorem dX7_read_119 : decode cX7_read 119 = .ok (.aload_n 0, 1) := by decide +kernel
theorem dX7_read_120 : decode cX7_read 120 = .ok (.getfield 31, 3) := by decide +kernel
theorem dX7_read_123 : decode cX7_read 123 = .ok (.iload_n 1, 1) := by decide +kernel
theorem dX7_read_124 : decode cX7_read 124 = .ok (.iaload, 1) := by decide +kernel
theorem dX7_read_125 : decode cX7_read 125 = .ok (.iload 8, 2) := by decide +kernel
theorem dX7_read_127 : decode cX7_read 127 = .ok (.ishr, 1) := by decide +kernel
theorem dX7_read_128 : decode cX7_read 128 = .ok (.iconst 1, 1) := by decide +kernel
theorem dX7_read_129 : decode cX7_read 129 = .ok (.iand, 1) := by decide +kernel
theorem dX7_read_130 : decode cX7_read 130 = .ok (.ifCond .ne 40, 3) := by decide +kernel
theorem dX7_read_133 : decode cX7_read 133 = .ok (.aload_n 0, 1) := by decide +kernel
theorem dX7_read_134 : decode cX7_read 134 = .ok (.iload_n 1, 1) := by decide +kernel
theorem dX7_read_135 : decode cX7_read 135 = .ok (.iload 8, 2) := by decide +kernel
theorem dX7_read_137 : decode cX7_read 137 = .ok (.invokevirtual 125, 3) := by decide +kernel
theorem dX7_read_140 : decode cX7_read 140 = .ok (.ifCond .eq 17, 3) := by decide +kernel
theorem dX7_read_143 : decode cX7_read 143 = .ok (.aload_n 0, 1) := by decide +kernel
theorem dX7_read_144 : decode cX7_read 144 = .ok (.iload_n 1, 1) := by decide +kernel
theorem dX7_read_145 : decode cX7_read 145 = .ok (.iload 8, 2) := by decide +kernel
theorem dX7_read_147 : decode cX7_read 147 = .ok (.invokevirtual 128, 3) := by decide +kernel
theorem dX7_read_150 : decode cX7_read 150 = .ok (.bipush (-4), 2) := by decide +kernel
theorem dX7_read_152 : decode cX7_read 152 = .ok (.istore 6, 2) := by decide +kernel
theorem dX7_read_154 : decode cX7_read 154 = .ok (.goto 16, 3) := by decide +kernel
theorem dX7_read_157 : decode cX7_read 157 = .ok (.aload_n 0, 1) := by decide +kernel
theorem dX7_read_158 : decode cX7_read 158 = .ok (.getfield 31, 3) := by decide +kernel
theorem dX7_read_161 : decode cX7_read 161 = .ok (.iload_n 1, 1) := by decide +kernel
theorem dX7_read_162 : decode cX7_read 162 = .ok (.dup2, 1) := by decide +kernel
theorem dX7_read_163 : decode cX7_read 163 = .ok (.iaload, 1) := by decide +kernel
theorem dX7_read_164 : decode cX7_read 164 = .ok (.iconst 1, 1) := by decide +kernel
theorem dX7_read_165 : decode cX7_read 165 = .ok (.iload 8, 2) := by decide +kernel
theorem dX7_read_167 : decode cX7_read 167 = .ok (.ishl, 1) := by decide +kernel
theorem dX7_read_168 : decode cX7_read 168 = .ok (.ior, 1) := by decide +kernel
theorem dX7_read_169 : decode cX7_read 169 = .ok (.iastore, 1) := by decide +kernel
theorem dX7_read_170 : decode cX7_read 170 = .ok (.iinc 7 1, 3) := by decide +kernel
theorem dX7_read_173 : decode cX7_read 173 = .ok (.goto (-98), 3) := by decide +kernel
theorem dX7_read_176 : decode cX7_read 176 = .ok (.aload_n 0, 1) := by decide +kernel
theorem dX7_read_177 : decode cX7_read 177 = .ok (.getfield 31, 3) := by decide +kernel
theorem dX7_read_180 : decode cX7_read 180 = .ok (.iload_n 1, 1) := by decide +kernel
theorem dX7_read_181 : decode cX7_read 181 = .ok (.iaload, 1) := by decide +kernel
theorem dX7_read_182 : decode cX7_read 182 = .ok (.istore 7, 2) := by decide +kernel
theorem dX7_read_184 : decode cX7_read 184 = .ok (.aload_n 0, 1) := by decide +kernel
theorem dX7_read_185 : decode cX7_read 185 = .ok (.getfield 31, 3) := by decide +kernel
theorem dX7_read_188 : decode cX7_read 188 = .ok (.iload_n 1, 1) := by decide +kernel
theorem dX7_read_189 : decode cX7_read 189 = .ok (.iload 5, 2) := by decide +kernel
theorem dX7_read_191 : decode cX7_read 191 = .ok (.iastore, 1) := by decide +kernel
theorem dX7_read_192 : decode cX7_read 192 = .ok (.iload 6, 2) := by decide +kernel
theorem dX7_read_194 : decode cX7_read 194 = .ok (.ifCond .ne 10, 3) := by decide +kernel
theorem dX7_read_197 : decode cX7_read 197 = .ok (.iload 7, 2) := by decide +kernel
theorem dX7_read_199 : decode cX7_read 199 = .ok (.iload 5, 2) := by decide +kernel
theorem dX7_read_201 : decode cX7_read 201 = .ok (.if_icmp .ne 6, 3) := by decide +kernel
theorem dX7_read_204 : decode cX7_read 204 = .ok (.iload 6, 2) := by decide +kernel
theorem dX7_read_206 : decode cX7_read 206 = .ok (.ireturn, 1) := by decide +kernel
theorem dX7_read_207 : decode cX7_read 207 = .ok (.aload_n 0, 1) := by decide +kernel
theorem dX7_read_208 : decode cX7_read 208 = .ok (.invokevirtual 109, 3) := by decide +kernel
theorem dX7_read_211 : decode cX7_read 211 = .ok (.aload_n 0, 1) := by decide +kernel
theorem dX7_read_212 : decode cX7_read 212 = .ok (.getfield 31, 3) := by decide +kernel
theorem dX7_read_215 : decode cX7_read 215 = .ok (.iload_n 1, 1) := by decide +kernel
theorem dX7_read_216 : decode cX7_read 216 = .ok (.iload 7, 2) := by decide +kernel
theorem dX7_read_218 : decode cX7_read 218 = .ok (.iastore, 1) := by decide +kernel
theorem dX7_read_219 : decode cX7_read 219 = .ok (.iload 7, 2) := by decide +kernel
theorem dX7_read_221 : decode cX7_read 221 = .ok (.iload 5, 2) := by decide +kernel
theorem dX7_read_223 : decode cX7_read 223 = .ok (.iconst (-1), 1) := by decide +kernel
theorem dX7_read_224 : decode cX7_read 224 = .ok (.ixor, 1) := by decide +kernel
theorem dX7_read_225 : decode cX7_read 225 = .ok (.iand, 1) := by decide +kernel
theorem dX7_read_226 : decode cX7_read 226 = .ok (.invokestatic 132, 3) := by decide +kernel
theorem dX7_read_229 : decode cX7_read 229 = .ok (.ireturn, 1) := by decide +kernel
theorem dX7_bits_0 : decode cX7_bits 0 = .ok (.iconst 0, 1) := by decide +kernel
theorem dX7_bits_1 : decode cX7_bits 1 = .ok (.istore_n 1, 1) := by decide +kernel
theorem dX7_bits_2 : decode cX7_bits 2 = .ok (.iconst 0, 1) := by decide +kernel
theorem dX7_bits_3 : decode cX7_bits 3 = .ok (.istore_n 2, 1) := by decide +kernel
theorem dX7_bits_4 : decode cX7_bits 4 = .ok (.iload_n 2, 1) := by decide +kernel
theorem dX7_bits_5 : decode cX7_bits 5 = .ok (.bipush 10, 2) := by decide +kernel
theorem dX7_bits_7 : decode cX7_bits 7 = .ok (.if_icmp .ge 17, 3) := by decide +kernel
theorem dX7_bits_10 : decode cX7_bits 10 = .ok (.iload_n 1, 1) := by decide +kernel
theorem dX7_bits_11 : decode cX7_bits 11 = .ok (.iload_n 0, 1) := by decide +kernel
theorem dX7_bits_12 : decode cX7_bits 12 = .ok (.iload_n 2, 1) := by decide +kernel
theorem dX7_bits_13 : decode cX7_bits 13 = .ok (.ishr, 1) := by decide +kernel
theorem dX7_bits_14 : decode cX7_bits 14 = .ok (.iconst 1, 1) := by decide +kernel
theorem dX7_bits_15 : decode cX7_bits 15 = .ok (.iand, 1) := by decide +kernel
theorem dX7_bits_16 : decode cX7_bits 16 = .ok (.iadd, 1) := by decide +kernel
theorem dX7_bits_17 : decode cX7_bits 17 = .ok (.istore_n 1, 1) := by decide +kernel
theorem dX7_bits_18 : decode cX7_bits 18 = .ok (.iinc 2 1, 3) := by decide +kernel
theorem dX7_bits_21 : decode cX7_bits 21 = .ok (.goto (-17), 3) := by decide +kernel
theorem dX7_bits_24 : decode cX7_bits 24 = .ok (.iload_n 1, 1) := by decide +kernel
theorem dX7_bits_25 : decode cX7_bits 25 = .ok (.ireturn, 1) := by decide +kernel
theorem dX7_free_0 : decode cX7_free 0 = .ok (.aload_n 0, 1) := by decide +kernel
theorem dX7_free_1 : decode cX7_free 1 = .ok (.iload_n 1, 1) := by decide +kernel
theorem dX7_free_2 : decode cX7_free 2 = .ok (.invokevirtual 122, 3) := by decide +kernel
theorem dX7_free_5 : decode cX7_free 5 = .ok (.ifCond .eq 11, 3) := by decide +kernel
theorem dX7_free_8 : decode cX7_free 8 = .ok (.aload_n 0, 1) := by decide +kernel
theorem dX7_free_9 : decode cX7_free 9 = .ok (.iload_n 2, 1) := by decide +kernel
theorem dX7_free_10 : decode cX7_free 10 = .ok (.invokevirtual 122, 3) := by decide +kernel
theorem dX7_free_13 : decode cX7_free 13 = .ok (.ifCond .ne 5, 3) := by decide +kernel
theorem dX7_free_16 : decode cX7_free 16 = .ok (.iconst (-1), 1) := by decide +kernel
theorem dX7_free_17 : decode cX7_free 17 = .ok (.ireturn, 1) := by decide +kernel
theorem dX7_free_18 : decode cX7_free 18 = .ok (.aload_n 0, 1) := by decide +kernel
theorem dX7_free_19 : decode cX7_free 19 = .ok (.getfield 31, 3) := by decide +kernel
theorem dX7_free_22 : decode cX7_free 22 = .ok (.iload_n 1, 1) := by decide +kernel
theorem dX7_free_23 : decode cX7_free 23 = .ok (.iaload, 1) := by decide +kernel
theorem dX7_free_24 : decode cX7_free 24 = .ok (.iload_n 2, 1) := by decide +kernel
theorem dX7_free_25 : decode cX7_free 25 = .ok (.ishr, 1) := by decide +kernel
theorem dX7_free_26 : decode cX7_free 26 = .ok (.iconst 1, 1) := by decide +kernel
theorem dX7_free_27 : decode cX7_free 27 = .ok (.iand, 1) := by decide +kernel
theorem dX7_free_28 : decode cX7_free 28 = .ok (.ifCond .ne 5, 3) := by decide +kernel
theorem dX7_free_31 : decode cX7_free 31 = .ok (.iconst 0, 1) := by decide +kernel
theorem dX7_free_32 : decode cX7_free 32 = .ok (.ireturn, 1) := by decide +kernel
theorem dX7_free_33 : decode cX7_free 33 = .ok (.aload_n 0, 1) := by decide +kernel
theorem dX7_free_34 : decode cX7_free 34 = .ok (.invokevirtual 109, 3) := by decide +kernel
theorem dX7_free_37 : decode cX7_free 37 = .ok (.aload_n 0, 1) := by decide +kernel
theorem dX7_free_38 : decode cX7_free 38 = .ok (.getfield 31, 3) := by decide +kernel
theorem dX7_free_41 : decode cX7_free 41 = .ok (.iload_n 1, 1) := by decide +kernel
theorem dX7_free_42 : decode cX7_free 42 = .ok (.dup2, 1) := by decide +kernel
theorem dX7_free_43 : decode cX7_free 43 = .ok (.iaload, 1) := by decide +kernel
theorem dX7_free_44 : decode cX7_free 44 = .ok (.iconst 1, 1) := by decide +kernel
theorem dX7_free_45 : decode cX7_free 45 = .ok (.iload_n 2, 1) := by decide +kernel
theorem dX7_free_46 : decode cX7_free 46 = .ok (.ishl, 1) := by decide +kernel
theorem dX7_free_47 : decode cX7_free 47 = .ok (.iconst (-1), 1) := by decide +kernel
theorem dX7_free_48 : decode cX7_free 48 = .ok (.ixor, 1) := by decide +kernel
theorem dX7_free_49 : decode cX7_free 49 = .ok (.iand, 1) := by decide +kernel
theorem dX7_free_50 : decode cX7_free 50 = .ok (.iastore, 1) := by decide +kernel
theorem dX7_free_51 : decode cX7_free 51 = .ok (.iconst 1, 1) := by decide +kernel
theorem dX7_free_52 : decode cX7_free 52 = .ok (.ireturn, 1) := by decide +kernel
theorem dX7_ring_0 : decode cX7_ring 0 = .ok (.iload_n 1, 1) := by decide +kernel
theorem dX7_ring_1 : decode cX7_ring 1 = .ok (.ifCond .ge 7, 3) := by decide +kernel
theorem dX7_ring_4 : decode cX7_ring 4 = .ok (.iconst (-1), 1) := by decide +kernel
theorem dX7_ring_5 : decode cX7_ring 5 = .ok (.goto 22, 3) := by decide +kernel
theorem dX7_ring_8 : decode cX7_ring 8 = .ok (.iload_n 1, 1) := by decide +kernel
theorem dX7_ring_9 : decode cX7_ring 9 = .ok (.aload_n 0, 1) := by decide +kernel
theorem dX7_ring_10 : decode cX7_ring 10 = .ok (.getfield 112, 3) := by decide +kernel
theorem dX7_ring_13 : decode cX7_ring 13 = .ok (.if_icmp .ge 12, 3) := by decide +kernel
theorem dX7_ring_16 : decode cX7_ring 16 = .ok (.aload_n 0, 1) := by decide +kernel
theorem dX7_ring_17 : decode cX7_ring 17 = .ok (.getfield 37, 3) := by decide +kernel
theorem dX7_ring_20 : decode cX7_ring 20 = .ok (.iload_n 1, 1) := by decide +kernel
theorem dX7_ring_21 : decode cX7_ring 21 = .ok (.iaload, 1) := by decide +kernel
theorem dX7_ring_22 : decode cX7_ring 22 = .ok (.goto 5, 3) := by decide +kernel
theorem dX7_ring_25 : decode cX7_ring 25 = .ok (.bipush (-3), 2) := by decide +kernel
theorem dX7_ring_27 : decode cX7_ring 27 = .ok (.ireturn, 1) := by decide +kernel
theorem dX7_nextOf_0 : decode cX7_nextOf 0 = .ok (.iconst 0, 1) := by decide +kernel
theorem dX7_nextOf_1 : decode cX7_nextOf 1 = .ok (.istore_n 3, 1) := by decide +kernel
theorem dX7_nextOf_2 : decode cX7_nextOf 2 = .ok (.iconst 0, 1) := by decide +kernel
theorem dX7_nextOf_3 : decode cX7_nextOf 3 = .ok (.istore 4, 2) := by decide +kernel
theorem dX7_nextOf_5 : decode cX7_nextOf 5 = .ok (.iload 4, 2) := by decide +kernel
theorem dX7_nextOf_7 : decode cX7_nextOf 7 = .ok (.aload_n 0, 1) := by decide +kernel
theorem dX7_nextOf_8 : decode cX7_nextOf 8 = .ok (.getfield 91, 3) := by decide +kernel
theorem dX7_nextOf_11 : decode cX7_nextOf 11 = .ok (.if_icmp .ge 40, 3) := by decide +kernel
theorem dX7_nextOf_14 : decode cX7_nextOf 14 = .ok (.iload_n 3, 1) := by decide +kernel
theorem dX7_nextOf_15 : decode cX7_nextOf 15 = .ok (.iload_n 2, 1) := by decide +kernel
theorem dX7_nextOf_16 : decode cX7_nextOf 16 = .ok (.iload 4, 2) := by decide +kernel
theorem dX7_nextOf_18 : decode cX7_nextOf 18 = .ok (.ishr, 1) := by decide +kernel
theorem dX7_nextOf_19 : decode cX7_nextOf 19 = .ok (.iconst 1, 1) := by decide +kernel
theorem dX7_nextOf_20 : decode cX7_nextOf 20 = .ok (.iand, 1) := by decide +kernel
theorem dX7_nextOf_21 : decode cX7_nextOf 21 = .ok (.iconst 1, 1) := by decide +kernel
theorem dX7_nextOf_22 : decode cX7_nextOf 22 = .ok (.if_icmp .ne 20, 3) := by decide +kernel
theorem dX7_nextOf_25 : decode cX7_nextOf 25 = .ok (.aload_n 0, 1) := by decide +kernel
theorem dX7_nextOf_26 : decode cX7_nextOf 26 = .ok (.iload 4, 2) := by decide +kernel
theorem dX7_nextOf_28 : decode cX7_nextOf 28 = .ok (.iload_n 1, 1) := by decide +kernel
theorem dX7_nextOf_29 : decode cX7_nextOf 29 = .ok (.invokevirtual 118, 3) := by decide +kernel
theorem dX7_nextOf_32 : decode cX7_nextOf 32 = .ok (.ifCond .eq 10, 3) := by decide +kernel
theorem dX7_nextOf_35 : decode cX7_nextOf 35 = .ok (.iconst 1, 1) := by decide +kernel
theorem dX7_nextOf_36 : decode cX7_nextOf 36 = .ok (.iload 4, 2) := by decide +kernel
theorem dX7_nextOf_38 : decode cX7_nextOf 38 = .ok (.ishl, 1) := by decide +kernel
theorem dX7_nextOf_39 : decode cX7_nextOf 39 = .ok (.goto 4, 3) := by decide +kernel
theorem dX7_nextOf_42 : decode cX7_nextOf 42 = .ok (.iconst 0, 1) := by decide +kernel
theorem dX7_nextOf_43 : decode cX7_nextOf 43 = .ok (.ior, 1) := by decide +kernel
theorem dX7_nextOf_44 : decode cX7_nextOf 44 = .ok (.istore_n 3, 1) := by decide +kernel
theorem dX7_nextOf_45 : decode cX7_nextOf 45 = .ok (.iinc 4 1, 3) := by decide +kernel
theorem dX7_nextOf_48 : decode cX7_nextOf 48 = .ok (.goto (-43), 3) := by decide +kernel
theorem dX7_nextOf_51 : decode cX7_nextOf 51 = .ok (.iconst 0, 1) := by decide +kernel
theorem dX7_nextOf_52 : decode cX7_nextOf 52 = .ok (.istore 4, 2) := by decide +kernel
theorem dX7_nextOf_54 : decode cX7_nextOf 54 = .ok (.iconst 0, 1) := by decide +kernel
theorem dX7_nextOf_55 : decode cX7_nextOf 55 = .ok (.istore 5, 2) := by decide +kernel
theorem dX7_nextOf_57 : decode cX7_nextOf 57 = .ok (.iload 5, 2) := by decide +kernel
theorem dX7_nextOf_59 : decode cX7_nextOf 59 = .ok (.aload_n 0, 1) := by decide +kernel
theorem dX7_nextOf_60 : decode cX7_nextOf 60 = .ok (.getfield 91, 3) := by decide +kernel
theorem dX7_nextOf_63 : decode cX7_nextOf 63 = .ok (.if_icmp .ge 44, 3) := by decide +kernel
theorem dX7_nextOf_66 : decode cX7_nextOf 66 = .ok (.iload 4, 2) := by decide +kernel
theorem dX7_nextOf_68 : decode cX7_nextOf 68 = .ok (.iload_n 3, 1) := by decide +kernel
theorem dX7_nextOf_69 : decode cX7_nextOf 69 = .ok (.iload 5, 2) := by decide +kernel
theorem dX7_nextOf_71 : decode cX7_nextOf 71 = .ok (.ishr, 1) := by decide +kernel
theorem dX7_nextOf_72 : decode cX7_nextOf 72 = .ok (.iconst 1, 1) := by decide +kernel
theorem dX7_nextOf_73 : decode cX7_nextOf 73 = .ok (.iand, 1) := by decide +kernel
theorem dX7_nextOf_74 : decode cX7_nextOf 74 = .ok (.iconst 1, 1) := by decide +kernel
theorem dX7_nextOf_75 : decode cX7_nextOf 75 = .ok (.if_icmp .ne 22, 3) := by decide +kernel
theorem dX7_nextOf_78 : decode cX7_nextOf 78 = .ok (.aload_n 0, 1) := by decide +kernel
theorem dX7_nextOf_79 : decode cX7_nextOf 79 = .ok (.getfield 43, 3) := by decide +kernel
theorem dX7_nextOf_82 : decode cX7_nextOf 82 = .ok (.iload 5, 2) := by decide +kernel
theorem dX7_nextOf_84 : decode cX7_nextOf 84 = .ok (.iaload, 1) := by decide +kernel
theorem dX7_nextOf_85 : decode cX7_nextOf 85 = .ok (.iload_n 3, 1) := by decide +kernel
theorem dX7_nextOf_86 : decode cX7_nextOf 86 = .ok (.iand, 1) := by decide +kernel
theorem dX7_nextOf_87 : decode cX7_nextOf 87 = .ok (.ifCond .ne 10, 3) := by decide +kernel
end
section
theorem dX7_nextOf_90 : decode cX7_nextOf 90 = .ok (.iconst 1, 1) := by decide +kernel
theorem dX7_nextOf_91 : decode cX7_nextOf 91 = .ok (.iload 5, 2) := by decide +kernel
theorem dX7_nextOf_93 : decode cX7_nextOf 93 = .ok (.ishl, 1) := by decide +kernel
theorem dX7_nextOf_94 : decode cX7_nextOf 94 = .ok (.goto 4, 3) := by decide +kernel
theorem dX7_nextOf_97 : decode cX7_nextOf 97 = .ok (.iconst 0, 1) := by decide +kernel
theorem dX7_nextOf_98 : decode cX7_nextOf 98 = .ok (.ior, 1) := by decide +kernel
theorem dX7_nextOf_99 : decode cX7_nextOf 99 = .ok (.istore 4, 2) := by decide +kernel
theorem dX7_nextOf_101 : decode cX7_nextOf 101 = .ok (.iinc 5 1, 3) := by decide +kernel
theorem dX7_nextOf_104 : decode cX7_nextOf 104 = .ok (.goto (-47), 3) := by decide +kernel
theorem dX7_nextOf_107 : decode cX7_nextOf 107 = .ok (.iload 4, 2) := by decide +kernel
theorem dX7_nextOf_109 : decode cX7_nextOf 109 = .ok (.ireturn, 1) := by decide +kernel
theorem dX7_rowOf_0 : decode cX7_rowOf 0 = .ok (.iconst 0, 1) := by decide +kernel
theorem dX7_rowOf_1 : decode cX7_rowOf 1 = .ok (.istore_n 2, 1) := by decide +kernel
theorem dX7_rowOf_2 : decode cX7_rowOf 2 = .ok (.iconst 0, 1) := by decide +kernel
theorem dX7_rowOf_3 : decode cX7_rowOf 3 = .ok (.istore_n 3, 1) := by decide +kernel
theorem dX7_rowOf_4 : decode cX7_rowOf 4 = .ok (.iload_n 3, 1) := by decide +kernel
theorem dX7_rowOf_5 : decode cX7_rowOf 5 = .ok (.aload_n 0, 1) := by decide +kernel
theorem dX7_rowOf_6 : decode cX7_rowOf 6 = .ok (.getfield 91, 3) := by decide +kernel
theorem dX7_rowOf_9 : decode cX7_rowOf 9 = .ok (.if_icmp .ge 33, 3) := by decide +kernel
theorem dX7_rowOf_12 : decode cX7_rowOf 12 = .ok (.iload_n 2, 1) := by decide +kernel
theorem dX7_rowOf_13 : decode cX7_rowOf 13 = .ok (.iload_n 1, 1) := by decide +kernel
theorem dX7_rowOf_14 : decode cX7_rowOf 14 = .ok (.iload_n 3, 1) := by decide +kernel
theorem dX7_rowOf_15 : decode cX7_rowOf 15 = .ok (.ishr, 1) := by decide +kernel
theorem dX7_rowOf_16 : decode cX7_rowOf 16 = .ok (.iconst 1, 1) := by decide +kernel
theorem dX7_rowOf_17 : decode cX7_rowOf 17 = .ok (.iand, 1) := by decide +kernel
theorem dX7_rowOf_18 : decode cX7_rowOf 18 = .ok (.iconst 1, 1) := by decide +kernel
theorem dX7_rowOf_19 : decode cX7_rowOf 19 = .ok (.if_icmp .ne 14, 3) := by decide +kernel
theorem dX7_rowOf_22 : decode cX7_rowOf 22 = .ok (.iconst 1, 1) := by decide +kernel
theorem dX7_rowOf_23 : decode cX7_rowOf 23 = .ok (.aload_n 0, 1) := by decide +kernel
theorem dX7_rowOf_24 : decode cX7_rowOf 24 = .ok (.getfield 49, 3) := by decide +kernel
theorem dX7_rowOf_27 : decode cX7_rowOf 27 = .ok (.iload_n 3, 1) := by decide +kernel
theorem dX7_rowOf_28 : decode cX7_rowOf 28 = .ok (.iaload, 1) := by decide +kernel
theorem dX7_rowOf_29 : decode cX7_rowOf 29 = .ok (.ishl, 1) := by decide +kernel
theorem dX7_rowOf_30 : decode cX7_rowOf 30 = .ok (.goto 4, 3) := by decide +kernel
theorem dX7_rowOf_33 : decode cX7_rowOf 33 = .ok (.iconst 0, 1) := by decide +kernel
theorem dX7_rowOf_34 : decode cX7_rowOf 34 = .ok (.ior, 1) := by decide +kernel
theorem dX7_rowOf_35 : decode cX7_rowOf 35 = .ok (.istore_n 2, 1) := by decide +kernel
theorem dX7_rowOf_36 : decode cX7_rowOf 36 = .ok (.iinc 3 1, 3) := by decide +kernel
theorem dX7_rowOf_39 : decode cX7_rowOf 39 = .ok (.goto (-35), 3) := by decide +kernel
theorem dX7_rowOf_42 : decode cX7_rowOf 42 = .ok (.iload_n 2, 1) := by decide +kernel
theorem dX7_rowOf_43 : decode cX7_rowOf 43 = .ok (.ireturn, 1) := by decide +kernel
theorem dX7_layLabels_0 : decode cX7_layLabels 0 = .ok (.iload_n 1, 1) := by decide +kernel
theorem dX7_layLabels_1 : decode cX7_layLabels 1 = .ok (.istore_n 2, 1) := by decide +kernel
theorem dX7_layLabels_2 : decode cX7_layLabels 2 = .ok (.iconst 0, 1) := by decide +kernel
theorem dX7_layLabels_3 : decode cX7_layLabels 3 = .ok (.istore_n 3, 1) := by decide +kernel
theorem dX7_layLabels_4 : decode cX7_layLabels 4 = .ok (.iload_n 3, 1) := by decide +kernel
theorem dX7_layLabels_5 : decode cX7_layLabels 5 = .ok (.bipush 10, 2) := by decide +kernel
theorem dX7_layLabels_7 : decode cX7_layLabels 7 = .ok (.if_icmp .ge 16, 3) := by decide +kernel
theorem dX7_layLabels_10 : decode cX7_layLabels 10 = .ok (.aload_n 0, 1) := by decide +kernel
theorem dX7_layLabels_11 : decode cX7_layLabels 11 = .ok (.getfield 49, 3) := by decide +kernel
theorem dX7_layLabels_14 : decode cX7_layLabels 14 = .ok (.iload_n 3, 1) := by decide +kernel
theorem dX7_layLabels_15 : decode cX7_layLabels 15 = .ok (.iconst 0, 1) := by decide +kernel
theorem dX7_layLabels_16 : decode cX7_layLabels 16 = .ok (.iastore, 1) := by decide +kernel
theorem dX7_layLabels_17 : decode cX7_layLabels 17 = .ok (.iinc 3 1, 3) := by decide +kernel
theorem dX7_layLabels_20 : decode cX7_layLabels 20 = .ok (.goto (-16), 3) := by decide +kernel
theorem dX7_layLabels_23 : decode cX7_layLabels 23 = .ok (.iconst 1, 1) := by decide +kernel
theorem dX7_layLabels_24 : decode cX7_layLabels 24 = .ok (.istore_n 3, 1) := by decide +kernel
theorem dX7_layLabels_25 : decode cX7_layLabels 25 = .ok (.iload_n 2, 1) := by decide +kernel
theorem dX7_layLabels_26 : decode cX7_layLabels 26 = .ok (.ifCond .eq 107, 3) := by decide +kernel
theorem dX7_layLabels_29 : decode cX7_layLabels 29 = .ok (.bipush (-3), 2) := by decide +kernel
theorem dX7_layLabels_31 : decode cX7_layLabels 31 = .ok (.istore 4, 2) := by decide +kernel
theorem dX7_layLabels_33 : decode cX7_layLabels 33 = .ok (.iconst 0, 1) := by decide +kernel
theorem dX7_layLabels_34 : decode cX7_layLabels 34 = .ok (.istore 5, 2) := by decide +kernel
theorem dX7_layLabels_36 : decode cX7_layLabels 36 = .ok (.iconst 0, 1) := by decide +kernel
theorem dX7_layLabels_37 : decode cX7_layLabels 37 = .ok (.istore 6, 2) := by decide +kernel
theorem dX7_layLabels_39 : decode cX7_layLabels 39 = .ok (.iload 6, 2) := by decide +kernel
theorem dX7_layLabels_41 : decode cX7_layLabels 41 = .ok (.aload_n 0, 1) := by decide +kernel
theorem dX7_layLabels_42 : decode cX7_layLabels 42 = .ok (.getfield 91, 3) := by decide +kernel
theorem dX7_layLabels_45 : decode cX7_layLabels 45 = .ok (.if_icmp .ge 65, 3) := by decide +kernel
theorem dX7_layLabels_48 : decode cX7_layLabels 48 = .ok (.aload_n 0, 1) := by decide +kernel
theorem dX7_layLabels_49 : decode cX7_layLabels 49 = .ok (.iload 6, 2) := by decide +kernel
theorem dX7_layLabels_51 : decode cX7_layLabels 51 = .ok (.iload_n 1, 1) := by decide +kernel
theorem dX7_layLabels_52 : decode cX7_layLabels 52 = .ok (.invokevirtual 136, 3) := by decide +kernel
theorem dX7_layLabels_55 : decode cX7_layLabels 55 = .ok (.istore 7, 2) := by decide +kernel
theorem dX7_layLabels_57 : decode cX7_layLabels 57 = .ok (.iload_n 2, 1) := by decide +kernel
theorem dX7_layLabels_58 : decode cX7_layLabels 58 = .ok (.iload 6, 2) := by decide +kernel
theorem dX7_layLabels_60 : decode cX7_layLabels 60 = .ok (.ishr, 1) := by decide +kernel
theorem dX7_layLabels_61 : decode cX7_layLabels 61 = .ok (.iconst 1, 1) := by decide +kernel
theorem dX7_layLabels_62 : decode cX7_layLabels 62 = .ok (.iand, 1) := by decide +kernel
theorem dX7_layLabels_63 : decode cX7_layLabels 63 = .ok (.iconst 1, 1) := by decide +kernel
theorem dX7_layLabels_64 : decode cX7_layLabels 64 = .ok (.if_icmp .ne 40, 3) := by decide +kernel
theorem dX7_layLabels_67 : decode cX7_layLabels 67 = .ok (.iload 7, 2) := by decide +kernel
theorem dX7_layLabels_69 : decode cX7_layLabels 69 = .ok (.iload_n 2, 1) := by decide +kernel
theorem dX7_layLabels_70 : decode cX7_layLabels 70 = .ok (.iand, 1) := by decide +kernel
theorem dX7_layLabels_71 : decode cX7_layLabels 71 = .ok (.ifCond .ne 33, 3) := by decide +kernel
theorem dX7_layLabels_74 : decode cX7_layLabels 74 = .ok (.aload_n 0, 1) := by decide +kernel
theorem dX7_layLabels_75 : decode cX7_layLabels 75 = .ok (.iload 7, 2) := by decide +kernel
theorem dX7_layLabels_77 : decode cX7_layLabels 77 = .ok (.invokevirtual 139, 3) := by decide +kernel
theorem dX7_layLabels_80 : decode cX7_layLabels 80 = .ok (.istore 8, 2) := by decide +kernel
theorem dX7_layLabels_82 : decode cX7_layLabels 82 = .ok (.iload 4, 2) := by decide +kernel
theorem dX7_layLabels_84 : decode cX7_layLabels 84 = .ok (.bipush (-3), 2) := by decide +kernel
theorem dX7_layLabels_86 : decode cX7_layLabels 86 = .ok (.if_icmp .eq 10, 3) := by decide +kernel
theorem dX7_layLabels_89 : decode cX7_layLabels 89 = .ok (.iload 8, 2) := by decide +kernel
theorem dX7_layLabels_91 : decode cX7_layLabels 91 = .ok (.iload 5, 2) := by decide +kernel
theorem dX7_layLabels_93 : decode cX7_layLabels 93 = .ok (.if_icmp .ge 11, 3) := by decide +kernel
theorem dX7_layLabels_96 : decode cX7_layLabels 96 = .ok (.iload 6, 2) := by decide +kernel
theorem dX7_layLabels_98 : decode cX7_layLabels 98 = .ok (.istore 4, 2) := by decide +kernel
theorem dX7_layLabels_100 : decode cX7_layLabels 100 = .ok (.iload 8, 2) := by decide +kernel
theorem dX7_layLabels_102 : decode cX7_layLabels 102 = .ok (.istore 5, 2) := by decide +kernel
theorem dX7_layLabels_104 : decode cX7_layLabels 104 = .ok (.iinc 6 1, 3) := by decide +kernel
theorem dX7_layLabels_107 : decode cX7_layLabels 107 = .ok (.goto (-68), 3) := by decide +kernel
theorem dX7_layLabels_110 : decode cX7_layLabels 110 = .ok (.aload_n 0, 1) := by decide +kernel
theorem dX7_layLabels_111 : decode cX7_layLabels 111 = .ok (.getfield 49, 3) := by decide +kernel
theorem dX7_layLabels_114 : decode cX7_layLabels 114 = .ok (.iload 4, 2) := by decide +kernel
theorem dX7_layLabels_116 : decode cX7_layLabels 116 = .ok (.iload_n 3, 1) := by decide +kernel
theorem dX7_layLabels_117 : decode cX7_layLabels 117 = .ok (.iastore, 1) := by decide +kernel
theorem dX7_layLabels_118 : decode cX7_layLabels 118 = .ok (.iload_n 2, 1) := by decide +kernel
theorem dX7_layLabels_119 : decode cX7_layLabels 119 = .ok (.iconst 1, 1) := by decide +kernel
theorem dX7_layLabels_120 : decode cX7_layLabels 120 = .ok (.iload 4, 2) := by decide +kernel
theorem dX7_layLabels_122 : decode cX7_layLabels 122 = .ok (.ishl, 1) := by decide +kernel
theorem dX7_layLabels_123 : decode cX7_layLabels 123 = .ok (.iconst (-1), 1) := by decide +kernel
theorem dX7_layLabels_124 : decode cX7_layLabels 124 = .ok (.ixor, 1) := by decide +kernel
theorem dX7_layLabels_125 : decode cX7_layLabels 125 = .ok (.iand, 1) := by decide +kernel
theorem dX7_layLabels_126 : decode cX7_layLabels 126 = .ok (.istore_n 2, 1) := by decide +kernel
theorem dX7_layLabels_127 : decode cX7_layLabels 127 = .ok (.iinc 3 1, 3) := by decide +kernel
theorem dX7_layLabels_130 : decode cX7_layLabels 130 = .ok (.goto (-105), 3) := by decide +kernel
theorem dX7_layLabels_133 : decode cX7_layLabels 133 = .ok (.return_, 1) := by decide +kernel
theorem dX7_greatest_0 : decode cX7_greatest 0 = .ok (.bipush (-3), 2) := by decide +kernel
theorem dX7_greatest_2 : decode cX7_greatest 2 = .ok (.istore_n 3, 1) := by decide +kernel
theorem dX7_greatest_3 : decode cX7_greatest 3 = .ok (.iconst 0, 1) := by decide +kernel
theorem dX7_greatest_4 : decode cX7_greatest 4 = .ok (.istore 4, 2) := by decide +kernel
theorem dX7_greatest_6 : decode cX7_greatest 6 = .ok (.iload 4, 2) := by decide +kernel
theorem dX7_greatest_8 : decode cX7_greatest 8 = .ok (.aload_n 0, 1) := by decide +kernel
theorem dX7_greatest_9 : decode cX7_greatest 9 = .ok (.getfield 91, 3) := by decide +kernel
theorem dX7_greatest_12 : decode cX7_greatest 12 = .ok (.if_icmp .ge 56, 3) := by decide +kernel
theorem dX7_greatest_15 : decode cX7_greatest 15 = .ok (.iload_n 1, 1) := by decide +kernel
theorem dX7_greatest_16 : decode cX7_greatest 16 = .ok (.iload 4, 2) := by decide +kernel
theorem dX7_greatest_18 : decode cX7_greatest 18 = .ok (.ishr, 1) := by decide +kernel
theorem dX7_greatest_19 : decode cX7_greatest 19 = .ok (.iconst 1, 1) := by decide +kernel
theorem dX7_greatest_20 : decode cX7_greatest 20 = .ok (.iand, 1) := by decide +kernel
theorem dX7_greatest_21 : decode cX7_greatest 21 = .ok (.iconst 1, 1) := by decide +kernel
theorem dX7_greatest_22 : decode cX7_greatest 22 = .ok (.if_icmp .ne 40, 3) := by decide +kernel
theorem dX7_greatest_25 : decode cX7_greatest 25 = .ok (.aload_n 0, 1) := by decide +kernel
theorem dX7_greatest_26 : decode cX7_greatest 26 = .ok (.getfield 43, 3) := by decide +kernel
theorem dX7_greatest_29 : decode cX7_greatest 29 = .ok (.iload 4, 2) := by decide +kernel
theorem dX7_greatest_31 : decode cX7_greatest 31 = .ok (.iaload, 1) := by decide +kernel
theorem dX7_greatest_32 : decode cX7_greatest 32 = .ok (.iload_n 2, 1) := by decide +kernel
theorem dX7_greatest_33 : decode cX7_greatest 33 = .ok (.iand, 1) := by decide +kernel
theorem dX7_greatest_34 : decode cX7_greatest 34 = .ok (.ifCond .ne 28, 3) := by decide +kernel
theorem dX7_greatest_37 : decode cX7_greatest 37 = .ok (.iload_n 3, 1) := by decide +kernel
theorem dX7_greatest_38 : decode cX7_greatest 38 = .ok (.bipush (-3), 2) := by decide +kernel
theorem dX7_greatest_40 : decode cX7_greatest 40 = .ok (.if_icmp .eq 19, 3) := by decide +kernel
theorem dX7_greatest_43 : decode cX7_greatest 43 = .ok (.aload_n 0, 1) := by decide +kernel
theorem dX7_greatest_44 : decode cX7_greatest 44 = .ok (.getfield 49, 3) := by decide +kernel
theorem dX7_greatest_47 : decode cX7_greatest 47 = .ok (.iload 4, 2) := by decide +kernel
theorem dX7_greatest_49 : decode cX7_greatest 49 = .ok (.iaload, 1) := by decide +kernel
theorem dX7_greatest_50 : decode cX7_greatest 50 = .ok (.aload_n 0, 1) := by decide +kernel
theorem dX7_greatest_51 : decode cX7_greatest 51 = .ok (.getfield 49, 3) := by decide +kernel
theorem dX7_greatest_54 : decode cX7_greatest 54 = .ok (.iload_n 3, 1) := by decide +kernel
theorem dX7_greatest_55 : decode cX7_greatest 55 = .ok (.iaload, 1) := by decide +kernel
theorem dX7_greatest_56 : decode cX7_greatest 56 = .ok (.if_icmp .le 6, 3) := by decide +kernel
theorem dX7_greatest_59 : decode cX7_greatest 59 = .ok (.iload 4, 2) := by decide +kernel
theorem dX7_greatest_61 : decode cX7_greatest 61 = .ok (.istore_n 3, 1) := by decide +kernel
theorem dX7_greatest_62 : decode cX7_greatest 62 = .ok (.iinc 4 1, 3) := by decide +kernel
theorem dX7_greatest_65 : decode cX7_greatest 65 = .ok (.goto (-59), 3) := by decide +kernel
theorem dX7_greatest_68 : decode cX7_greatest 68 = .ok (.iload_n 3, 1) := by decide +kernel
theorem dX7_greatest_69 : decode cX7_greatest 69 = .ok (.ireturn, 1) := by decide +kernel
theorem dX7_layDay_0 : decode cX7_layDay 0 = .ok (.aload_n 0, 1) := by decide +kernel
theorem dX7_layDay_1 : decode cX7_layDay 1 = .ok (.invokevirtual 115, 3) := by decide +kernel
theorem dX7_layDay_4 : decode cX7_layDay 4 = .ok (.aload_n 0, 1) := by decide +kernel
theorem dX7_layDay_5 : decode cX7_layDay 5 = .ok (.iload_n 1, 1) := by decide +kernel
theorem dX7_layDay_6 : decode cX7_layDay 6 = .ok (.invokevirtual 142, 3) := by decide +kernel
theorem dX7_layDay_9 : decode cX7_layDay 9 = .ok (.iload_n 1, 1) := by decide +kernel
theorem dX7_layDay_10 : decode cX7_layDay 10 = .ok (.istore_n 2, 1) := by decide +kernel
theorem dX7_layDay_11 : decode cX7_layDay 11 = .ok (.aload_n 0, 1) := by decide +kernel
theorem dX7_layDay_12 : decode cX7_layDay 12 = .ok (.iconst 0, 1) := by decide +kernel
theorem dX7_layDay_13 : decode cX7_layDay 13 = .ok (.putfield 146, 3) := by decide +kernel
theorem dX7_layDay_16 : decode cX7_layDay 16 = .ok (.iconst 0, 1) := by decide +kernel
theorem dX7_layDay_17 : decode cX7_layDay 17 = .ok (.istore_n 3, 1) := by decide +kernel
theorem dX7_layDay_18 : decode cX7_layDay 18 = .ok (.iload_n 3, 1) := by decide +kernel
theorem dX7_layDay_19 : decode cX7_layDay 19 = .ok (.bipush 10, 2) := by decide +kernel
theorem dX7_layDay_21 : decode cX7_layDay 21 = .ok (.if_icmp .ge 16, 3) := by decide +kernel
theorem dX7_layDay_24 : decode cX7_layDay 24 = .ok (.aload_n 0, 1) := by decide +kernel
theorem dX7_layDay_25 : decode cX7_layDay 25 = .ok (.getfield 52, 3) := by decide +kernel
theorem dX7_layDay_28 : decode cX7_layDay 28 = .ok (.iload_n 3, 1) := by decide +kernel
theorem dX7_layDay_29 : decode cX7_layDay 29 = .ok (.iconst 0, 1) := by decide +kernel
theorem dX7_layDay_30 : decode cX7_layDay 30 = .ok (.iastore, 1) := by decide +kernel
theorem dX7_layDay_31 : decode cX7_layDay 31 = .ok (.iinc 3 1, 3) := by decide +kernel
theorem dX7_layDay_34 : decode cX7_layDay 34 = .ok (.goto (-16), 3) := by decide +kernel
theorem dX7_layDay_37 : decode cX7_layDay 37 = .ok (.iload_n 2, 1) := by decide +kernel
theorem dX7_layDay_38 : decode cX7_layDay 38 = .ok (.ifCond .eq 110, 3) := by decide +kernel
theorem dX7_layDay_41 : decode cX7_layDay 41 = .ok (.aload_n 0, 1) := by decide +kernel
theorem dX7_layDay_42 : decode cX7_layDay 42 = .ok (.dup, 1) := by decide +kernel
theorem dX7_layDay_43 : decode cX7_layDay 43 = .ok (.getfield 146, 3) := by decide +kernel
theorem dX7_layDay_46 : decode cX7_layDay 46 = .ok (.iconst 1, 1) := by decide +kernel
theorem dX7_layDay_47 : decode cX7_layDay 47 = .ok (.iadd, 1) := by decide +kernel
theorem dX7_layDay_48 : decode cX7_layDay 48 = .ok (.putfield 146, 3) := by decide +kernel
theorem dX7_layDay_51 : decode cX7_layDay 51 = .ok (.aload_n 0, 1) := by decide +kernel
theorem dX7_layDay_52 : decode cX7_layDay 52 = .ok (.iload_n 2, 1) := by decide +kernel
theorem dX7_layDay_53 : decode cX7_layDay 53 = .ok (.iload_n 2, 1) := by decide +kernel
theorem dX7_layDay_54 : decode cX7_layDay 54 = .ok (.invokevirtual 149, 3) := by decide +kernel
theorem dX7_layDay_57 : decode cX7_layDay 57 = .ok (.istore_n 3, 1) := by decide +kernel
theorem dX7_layDay_58 : decode cX7_layDay 58 = .ok (.aload_n 0, 1) := by decide +kernel
theorem dX7_layDay_59 : decode cX7_layDay 59 = .ok (.iload_n 2, 1) := by decide +kernel
theorem dX7_layDay_60 : decode cX7_layDay 60 = .ok (.iconst 1, 1) := by decide +kernel
theorem dX7_layDay_61 : decode cX7_layDay 61 = .ok (.iload_n 3, 1) := by decide +kernel
theorem dX7_layDay_62 : decode cX7_layDay 62 = .ok (.ishl, 1) := by decide +kernel
theorem dX7_layDay_63 : decode cX7_layDay 63 = .ok (.iconst (-1), 1) := by decide +kernel
theorem dX7_layDay_64 : decode cX7_layDay 64 = .ok (.ixor, 1) := by decide +kernel
theorem dX7_layDay_65 : decode cX7_layDay 65 = .ok (.iand, 1) := by decide +kernel
theorem dX7_layDay_66 : decode cX7_layDay 66 = .ok (.iload_n 2, 1) := by decide +kernel
theorem dX7_layDay_67 : decode cX7_layDay 67 = .ok (.invokevirtual 149, 3) := by decide +kernel
theorem dX7_layDay_70 : decode cX7_layDay 70 = .ok (.istore 4, 2) := by decide +kernel
theorem dX7_layDay_72 : decode cX7_layDay 72 = .ok (.aload_n 0, 1) := by decide +kernel
theorem dX7_layDay_73 : decode cX7_layDay 73 = .ok (.getfield 52, 3) := by decide +kernel
theorem dX7_layDay_76 : decode cX7_layDay 76 = .ok (.iload_n 3, 1) := by decide +kernel
theorem dX7_layDay_77 : decode cX7_layDay 77 = .ok (.aload_n 0, 1) := by decide +kernel
theorem dX7_layDay_78 : decode cX7_layDay 78 = .ok (.getfield 146, 3) := by decide +kernel
theorem dX7_layDay_81 : decode cX7_layDay 81 = .ok (.iastore, 1) := by decide +kernel
theorem dX7_layDay_82 : decode cX7_layDay 82 = .ok (.iload 4, 2) := by decide +kernel
theorem dX7_layDay_84 : decode cX7_layDay 84 = .ok (.bipush (-3), 2) := by decide +kernel
theorem dX7_layDay_86 : decode cX7_layDay 86 = .ok (.if_icmp .eq 14, 3) := by decide +kernel
theorem dX7_layDay_89 : decode cX7_layDay 89 = .ok (.aload_n 0, 1) := by decide +kernel
theorem dX7_layDay_90 : decode cX7_layDay 90 = .ok (.getfield 52, 3) := by decide +kernel
theorem dX7_layDay_93 : decode cX7_layDay 93 = .ok (.iload 4, 2) := by decide +kernel
theorem dX7_layDay_95 : decode cX7_layDay 95 = .ok (.aload_n 0, 1) := by decide +kernel
theorem dX7_layDay_96 : decode cX7_layDay 96 = .ok (.getfield 146, 3) := by decide +kernel
theorem dX7_layDay_99 : decode cX7_layDay 99 = .ok (.iastore, 1) := by decide +kernel
theorem dX7_layDay_100 : decode cX7_layDay 100 = .ok (.iconst 0, 1) := by decide +kernel
theorem dX7_layDay_101 : decode cX7_layDay 101 = .ok (.istore 5, 2) := by decide +kernel
theorem dX7_layDay_103 : decode cX7_layDay 103 = .ok (.iload 5, 2) := by decide +kernel
theorem dX7_layDay_105 : decode cX7_layDay 105 = .ok (.aload_n 0, 1) := by decide +kernel
theorem dX7_layDay_106 : decode cX7_layDay 106 = .ok (.getfield 91, 3) := by decide +kernel
theorem dX7_layDay_109 : decode cX7_layDay 109 = .ok (.if_icmp .ge 36, 3) := by decide +kernel
theorem dX7_layDay_112 : decode cX7_layDay 112 = .ok (.iload_n 2, 1) := by decide +kernel
theorem dX7_layDay_113 : decode cX7_layDay 113 = .ok (.aload_n 0, 1) := by decide +kernel
theorem dX7_layDay_114 : decode cX7_layDay 114 = .ok (.getfield 52, 3) := by decide +kernel
theorem dX7_layDay_117 : decode cX7_layDay 117 = .ok (.iload 5, 2) := by decide +kernel
theorem dX7_layDay_119 : decode cX7_layDay 119 = .ok (.iaload, 1) := by decide +kernel
theorem dX7_layDay_120 : decode cX7_layDay 120 = .ok (.aload_n 0, 1) := by decide +kernel
theorem dX7_layDay_121 : decode cX7_layDay 121 = .ok (.getfield 146, 3) := by decide +kernel
theorem dX7_layDay_124 : decode cX7_layDay 124 = .ok (.if_icmp .ne 12, 3) := by decide +kernel
theorem dX7_layDay_127 : decode cX7_layDay 127 = .ok (.iconst 1, 1) := by decide +kernel
theorem dX7_layDay_128 : decode cX7_layDay 128 = .ok (.iload 5, 2) := by decide +kernel
theorem dX7_layDay_130 : decode cX7_layDay 130 = .ok (.ishl, 1) := by decide +kernel
theorem dX7_layDay_131 : decode cX7_layDay 131 = .ok (.iconst (-1), 1) := by decide +kernel
theorem dX7_layDay_132 : decode cX7_layDay 132 = .ok (.ixor, 1) := by decide +kernel
theorem dX7_layDay_133 : decode cX7_layDay 133 = .ok (.goto 4, 3) := by decide +kernel
theorem dX7_layDay_136 : decode cX7_layDay 136 = .ok (.iconst (-1), 1) := by decide +kernel
theorem dX7_layDay_137 : decode cX7_layDay 137 = .ok (.iand, 1) := by decide +kernel
theorem dX7_layDay_138 : decode cX7_layDay 138 = .ok (.istore_n 2, 1) := by decide +kernel
theorem dX7_layDay_139 : decode cX7_layDay 139 = .ok (.iinc 5 1, 3) := by decide +kernel
theorem dX7_layDay_142 : decode cX7_layDay 142 = .ok (.goto (-39), 3) := by decide +kernel
theorem dX7_layDay_145 : decode cX7_layDay 145 = .ok (.goto (-108), 3) := by decide +kernel
theorem dX7_layDay_148 : decode cX7_layDay 148 = .ok (.return_, 1) := by decide +kernel
theorem dX7_all_0 : decode cX7_all 0 = .ok (.iconst 1, 1) := by decide +kernel
theorem dX7_all_1 : decode cX7_all 1 = .ok (.aload_n 0, 1) := by decide +kernel
theorem dX7_all_2 : decode cX7_all 2 = .ok (.getfield 91, 3) := by decide +kernel
theorem dX7_all_5 : decode cX7_all 5 = .ok (.ishl, 1) := by decide +kernel
theorem dX7_all_6 : decode cX7_all 6 = .ok (.iconst 1, 1) := by decide +kernel
theorem dX7_all_7 : decode cX7_all 7 = .ok (.isub, 1) := by decide +kernel
theorem dX7_all_8 : decode cX7_all 8 = .ok (.ireturn, 1) := by decide +kernel
theorem dX7_depthOf_0 : decode cX7_depthOf 0 = .ok (.iconst 0, 1) := by decide +kernel
theorem dX7_depthOf_1 : decode cX7_depthOf 1 = .ok (.istore_n 3, 1) := by decide +kernel
theorem dX7_depthOf_2 : decode cX7_depthOf 2 = .ok (.iconst 0, 1) := by decide +kernel
theorem dX7_depthOf_3 : decode cX7_depthOf 3 = .ok (.istore 4, 2) := by decide +kernel
theorem dX7_depthOf_5 : decode cX7_depthOf 5 = .ok (.iload 4, 2) := by decide +kernel
theorem dX7_depthOf_7 : decode cX7_depthOf 7 = .ok (.aload_n 0, 1) := by decide +kernel
theorem dX7_depthOf_8 : decode cX7_depthOf 8 = .ok (.getfield 91, 3) := by decide +kernel
theorem dX7_depthOf_11 : decode cX7_depthOf 11 = .ok (.if_icmp .ge 36, 3) := by decide +kernel
theorem dX7_depthOf_14 : decode cX7_depthOf 14 = .ok (.aload_n 0, 1) := by decide +kernel
theorem dX7_depthOf_15 : decode cX7_depthOf 15 = .ok (.iload 4, 2) := by decide +kernel
theorem dX7_depthOf_17 : decode cX7_depthOf 17 = .ok (.iload_n 1, 1) := by decide +kernel
theorem dX7_depthOf_18 : decode cX7_depthOf 18 = .ok (.invokevirtual 118, 3) := by decide +kernel
theorem dX7_depthOf_21 : decode cX7_depthOf 21 = .ok (.ifCond .eq 18, 3) := by decide +kernel
theorem dX7_depthOf_24 : decode cX7_depthOf 24 = .ok (.aload_n 2, 1) := by decide +kernel
theorem dX7_depthOf_25 : decode cX7_depthOf 25 = .ok (.iload 4, 2) := by decide +kernel
theorem dX7_depthOf_27 : decode cX7_depthOf 27 = .ok (.iaload, 1) := by decide +kernel
theorem dX7_depthOf_28 : decode cX7_depthOf 28 = .ok (.iload_n 3, 1) := by decide +kernel
theorem dX7_depthOf_29 : decode cX7_depthOf 29 = .ok (.if_icmp .le 10, 3) := by decide +kernel
theorem dX7_depthOf_32 : decode cX7_depthOf 32 = .ok (.aload_n 2, 1) := by decide +kernel
theorem dX7_depthOf_33 : decode cX7_depthOf 33 = .ok (.iload 4, 2) := by decide +kernel
theorem dX7_depthOf_35 : decode cX7_depthOf 35 = .ok (.iaload, 1) := by decide +kernel
theorem dX7_depthOf_36 : decode cX7_depthOf 36 = .ok (.goto 4, 3) := by decide +kernel
theorem dX7_depthOf_39 : decode cX7_depthOf 39 = .ok (.iload_n 3, 1) := by decide +kernel
theorem dX7_depthOf_40 : decode cX7_depthOf 40 = .ok (.istore_n 3, 1) := by decide +kernel
theorem dX7_depthOf_41 : decode cX7_depthOf 41 = .ok (.iinc 4 1, 3) := by decide +kernel
theorem dX7_depthOf_44 : decode cX7_depthOf 44 = .ok (.goto (-39), 3) := by decide +kernel
theorem dX7_depthOf_47 : decode cX7_depthOf 47 = .ok (.iload_n 3, 1) := by decide +kernel
theorem dX7_depthOf_48 : decode cX7_depthOf 48 = .ok (.iconst 1, 1) := by decide +kernel
theorem dX7_depthOf_49 : decode cX7_depthOf 49 = .ok (.iadd, 1) := by decide +kernel
theorem dX7_depthOf_50 : decode cX7_depthOf 50 = .ok (.ireturn, 1) := by decide +kernel
theorem dX7_layDepths_0 : decode cX7_layDepths 0 = .ok (.aload_n 0, 1) := by decide +kernel
theorem dX7_layDepths_1 : decode cX7_layDepths 1 = .ok (.invokevirtual 115, 3) := by decide +kernel
theorem dX7_layDepths_4 : decode cX7_layDepths 4 = .ok (.iconst 0, 1) := by decide +kernel
theorem dX7_layDepths_5 : decode cX7_layDepths 5 = .ok (.istore_n 1, 1) := by decide +kernel
theorem dX7_layDepths_6 : decode cX7_layDepths 6 = .ok (.iload_n 1, 1) := by decide +kernel
theorem dX7_layDepths_7 : decode cX7_layDepths 7 = .ok (.bipush 10, 2) := by decide +kernel
theorem dX7_layDepths_9 : decode cX7_layDepths 9 = .ok (.if_icmp .ge 16, 3) := by decide +kernel
theorem dX7_layDepths_12 : decode cX7_layDepths 12 = .ok (.aload_n 0, 1) := by decide +kernel
theorem dX7_layDepths_13 : decode cX7_layDepths 13 = .ok (.getfield 55, 3) := by decide +kernel
theorem dX7_layDepths_16 : decode cX7_layDepths 16 = .ok (.iload_n 1, 1) := by decide +kernel
theorem dX7_layDepths_17 : decode cX7_layDepths 17 = .ok (.iconst 1, 1) := by decide +kernel
theorem dX7_layDepths_18 : decode cX7_layDepths 18 = .ok (.iastore, 1) := by decide +kernel
theorem dX7_layDepths_19 : decode cX7_layDepths 19 = .ok (.iinc 1 1, 3) := by decide +kernel
theorem dX7_layDepths_22 : decode cX7_layDepths 22 = .ok (.goto (-16), 3) := by decide +kernel
theorem dX7_layDepths_25 : decode cX7_layDepths 25 = .ok (.iconst 0, 1) := by decide +kernel
theorem dX7_layDepths_26 : decode cX7_layDepths 26 = .ok (.istore_n 1, 1) := by decide +kernel
theorem dX7_layDepths_27 : decode cX7_layDepths 27 = .ok (.iload_n 1, 1) := by decide +kernel
theorem dX7_layDepths_28 : decode cX7_layDepths 28 = .ok (.aload_n 0, 1) := by decide +kernel
theorem dX7_layDepths_29 : decode cX7_layDepths 29 = .ok (.getfield 91, 3) := by decide +kernel
theorem dX7_layDepths_32 : decode cX7_layDepths 32 = .ok (.if_icmp .ge 40, 3) := by decide +kernel
theorem dX7_layDepths_35 : decode cX7_layDepths 35 = .ok (.iconst 0, 1) := by decide +kernel
theorem dX7_layDepths_36 : decode cX7_layDepths 36 = .ok (.istore_n 2, 1) := by decide +kernel
theorem dX7_layDepths_37 : decode cX7_layDepths 37 = .ok (.iload_n 2, 1) := by decide +kernel
theorem dX7_layDepths_38 : decode cX7_layDepths 38 = .ok (.aload_n 0, 1) := by decide +kernel
theorem dX7_layDepths_39 : decode cX7_layDepths 39 = .ok (.getfield 91, 3) := by decide +kernel
theorem dX7_layDepths_42 : decode cX7_layDepths 42 = .ok (.if_icmp .ge 24, 3) := by decide +kernel
theorem dX7_layDepths_45 : decode cX7_layDepths 45 = .ok (.aload_n 0, 1) := by decide +kernel
theorem dX7_layDepths_46 : decode cX7_layDepths 46 = .ok (.getfield 55, 3) := by decide +kernel
theorem dX7_layDepths_49 : decode cX7_layDepths 49 = .ok (.iload_n 2, 1) := by decide +kernel
theorem dX7_layDepths_50 : decode cX7_layDepths 50 = .ok (.aload_n 0, 1) := by decide +kernel
theorem dX7_layDepths_51 : decode cX7_layDepths 51 = .ok (.iload_n 2, 1) := by decide +kernel
theorem dX7_layDepths_52 : decode cX7_layDepths 52 = .ok (.aload_n 0, 1) := by decide +kernel
theorem dX7_layDepths_53 : decode cX7_layDepths 53 = .ok (.getfield 55, 3) := by decide +kernel
theorem dX7_layDepths_56 : decode cX7_layDepths 56 = .ok (.invokevirtual 152, 3) := by decide +kernel
theorem dX7_layDepths_59 : decode cX7_layDepths 59 = .ok (.iastore, 1) := by decide +kernel
theorem dX7_layDepths_60 : decode cX7_layDepths 60 = .ok (.iinc 2 1, 3) := by decide +kernel
theorem dX7_layDepths_63 : decode cX7_layDepths 63 = .ok (.goto (-26), 3) := by decide +kernel
theorem dX7_layDepths_66 : decode cX7_layDepths 66 = .ok (.iinc 1 1, 3) := by decide +kernel
theorem dX7_layDepths_69 : decode cX7_layDepths 69 = .ok (.goto (-42), 3) := by decide +kernel
theorem dX7_layDepths_72 : decode cX7_layDepths 72 = .ok (.return_, 1) := by decide +kernel
theorem dX7_behindOf_0 : decode cX7_behindOf 0 = .ok (.iconst 0, 1) := by decide +kernel
theorem dX7_behindOf_1 : decode cX7_behindOf 1 = .ok (.istore_n 2, 1) := by decide +kernel
theorem dX7_behindOf_2 : decode cX7_behindOf 2 = .ok (.iconst 0, 1) := by decide +kernel
theorem dX7_behindOf_3 : decode cX7_behindOf 3 = .ok (.istore_n 3, 1) := by decide +kernel
theorem dX7_behindOf_4 : decode cX7_behindOf 4 = .ok (.iload_n 3, 1) := by decide +kernel
theorem dX7_behindOf_5 : decode cX7_behindOf 5 = .ok (.aload_n 0, 1) := by decide +kernel
theorem dX7_behindOf_6 : decode cX7_behindOf 6 = .ok (.getfield 91, 3) := by decide +kernel
theorem dX7_behindOf_9 : decode cX7_behindOf 9 = .ok (.if_icmp .ge 28, 3) := by decide +kernel
theorem dX7_behindOf_12 : decode cX7_behindOf 12 = .ok (.iload_n 2, 1) := by decide +kernel
theorem dX7_behindOf_13 : decode cX7_behindOf 13 = .ok (.aload_n 0, 1) := by decide +kernel
theorem dX7_behindOf_14 : decode cX7_behindOf 14 = .ok (.iload_n 3, 1) := by decide +kernel
theorem dX7_behindOf_15 : decode cX7_behindOf 15 = .ok (.iload_n 1, 1) := by decide +kernel
theorem dX7_behindOf_16 : decode cX7_behindOf 16 = .ok (.invokevirtual 118, 3) := by decide +kernel
theorem dX7_behindOf_19 : decode cX7_behindOf 19 = .ok (.ifCond .eq 9, 3) := by decide +kernel
theorem dX7_behindOf_22 : decode cX7_behindOf 22 = .ok (.iconst 1, 1) := by decide +kernel
theorem dX7_behindOf_23 : decode cX7_behindOf 23 = .ok (.iload_n 3, 1) := by decide +kernel
theorem dX7_behindOf_24 : decode cX7_behindOf 24 = .ok (.ishl, 1) := by decide +kernel
theorem dX7_behindOf_25 : decode cX7_behindOf 25 = .ok (.goto 4, 3) := by decide +kernel
theorem dX7_behindOf_28 : decode cX7_behindOf 28 = .ok (.iconst 0, 1) := by decide +kernel
theorem dX7_behindOf_29 : decode cX7_behindOf 29 = .ok (.ior, 1) := by decide +kernel
theorem dX7_behindOf_30 : decode cX7_behindOf 30 = .ok (.istore_n 2, 1) := by decide +kernel
theorem dX7_behindOf_31 : decode cX7_behindOf 31 = .ok (.iinc 3 1, 3) := by decide +kernel
theorem dX7_behindOf_34 : decode cX7_behindOf 34 = .ok (.goto (-30), 3) := by decide +kernel
theorem dX7_behindOf_37 : decode cX7_behindOf 37 = .ok (.iload_n 2, 1) := by decide +kernel
theorem dX7_behindOf_38 : decode cX7_behindOf 38 = .ok (.ireturn, 1) := by decide +kernel
theorem dX7_about_0 : decode cX7_about 0 = .ok (.aload_n 0, 1) := by decide +kernel
theorem dX7_about_1 : decode cX7_about 1 = .ok (.iload_n 1, 1) := by decide +kernel
theorem dX7_about_2 : decode cX7_about 2 = .ok (.invokevirtual 122, 3) := by decide +kernel
theorem dX7_about_5 : decode cX7_about 5 = .ok (.ifCond .eq 15, 3) := by decide +kernel
theorem dX7_about_8 : decode cX7_about 8 = .ok (.iload_n 2, 1) := by decide +kernel
theorem dX7_about_9 : decode cX7_about 9 = .ok (.i2l, 1) := by decide +kernel
theorem dX7_about_10 : decode cX7_about 10 = .ok (.lconst 0, 1) := by decide +kernel
theorem dX7_about_11 : decode cX7_about 11 = .ok (.ldc2_w 156, 3) := by decide +kernel
theorem dX7_about_14 : decode cX7_about 14 = .ok (.invokestatic 73, 3) := by decide +kernel
theorem dX7_about_17 : decode cX7_about 17 = .ok (.ifCond .ne 6, 3) := by decide +kernel
theorem dX7_about_20 : decode cX7_about 20 = .ok (.bipush (-9), 2) := by decide +kernel
theorem dX7_about_22 : decode cX7_about 22 = .ok (.ireturn, 1) := by decide +kernel
theorem dX7_about_23 : decode cX7_about 23 = .ok (.aload_n 0, 1) := by decide +kernel
theorem dX7_about_24 : decode cX7_about 24 = .ok (.invokevirtual 115, 3) := by decide +kernel
theorem dX7_about_27 : decode cX7_about 27 = .ok (.iload_n 2, 1) := by decide +kernel
theorem dX7_about_28 : decode cX7_about 28 = .ok (.tableswitch 159 0 10 #[60, 67, 74, 81, 88, 95, 102, 108, 118, 129, 144], 60) := by decide +kernel
theorem dX7_about_88 : decode cX7_about 88 = .ok (.aload_n 0, 1) := by decide +kernel
theorem dX7_about_89 : decode cX7_about 89 = .ok (.getfield 19, 3) := by decide +kernel
theorem dX7_about_92 : decode cX7_about 92 = .ok (.iload_n 1, 1) := by decide +kernel
theorem dX7_about_93 : decode cX7_about 93 = .ok (.iaload, 1) := by decide +kernel
theorem dX7_about_94 : decode cX7_about 94 = .ok (.ireturn, 1) := by decide +kernel
theorem dX7_about_95 : decode cX7_about 95 = .ok (.aload_n 0, 1) := by decide +kernel
theorem dX7_about_96 : decode cX7_about 96 = .ok (.getfield 22, 3) := by decide +kernel
theorem dX7_about_99 : decode cX7_about 99 = .ok (.iload_n 1, 1) := by decide +kernel
theorem dX7_about_100 : decode cX7_about 100 = .ok (.iaload, 1) := by decide +kernel
theorem dX7_about_101 : decode cX7_about 101 = .ok (.ireturn, 1) := by decide +kernel
theorem dX7_about_102 : decode cX7_about 102 = .ok (.aload_n 0, 1) := by decide +kernel
theorem dX7_about_103 : decode cX7_about 103 = .ok (.getfield 25, 3) := by decide +kernel
theorem dX7_about_106 : decode cX7_about 106 = .ok (.iload_n 1, 1) := by decide +kernel
theorem dX7_about_107 : decode cX7_about 107 = .ok (.iaload, 1) := by decide +kernel
theorem dX7_about_108 : decode cX7_about 108 = .ok (.ireturn, 1) := by decide +kernel
theorem dX7_about_109 : decode cX7_about 109 = .ok (.aload_n 0, 1) := by decide +kernel
theorem dX7_about_110 : decode cX7_about 110 = .ok (.getfield 28, 3) := by decide +kernel
theorem dX7_about_113 : decode cX7_about 113 = .ok (.iload_n 1, 1) := by decide +kernel
theorem dX7_about_114 : decode cX7_about 114 = .ok (.iaload, 1) := by decide +kernel
theorem dX7_about_115 : decode cX7_about 115 = .ok (.ireturn, 1) := by decide +kernel
theorem dX7_about_116 : decode cX7_about 116 = .ok (.aload_n 0, 1) := by decide +kernel
theorem dX7_about_117 : decode cX7_about 117 = .ok (.getfield 31, 3) := by decide +kernel
theorem dX7_about_120 : decode cX7_about 120 = .ok (.iload_n 1, 1) := by decide +kernel
theorem dX7_about_121 : decode cX7_about 121 = .ok (.iaload, 1) := by decide +kernel
theorem dX7_about_122 : decode cX7_about 122 = .ok (.ireturn, 1) := by decide +kernel
theorem dX7_about_123 : decode cX7_about 123 = .ok (.aload_n 0, 1) := by decide +kernel
theorem dX7_about_124 : decode cX7_about 124 = .ok (.getfield 43, 3) := by decide +kernel
theorem dX7_about_127 : decode cX7_about 127 = .ok (.iload_n 1, 1) := by decide +kernel
theorem dX7_about_128 : decode cX7_about 128 = .ok (.iaload, 1) := by decide +kernel
theorem dX7_about_129 : decode cX7_about 129 = .ok (.ireturn, 1) := by decide +kernel
theorem dX7_about_130 : decode cX7_about 130 = .ok (.aload_n 0, 1) := by decide +kernel
theorem dX7_about_131 : decode cX7_about 131 = .ok (.iload_n 1, 1) := by decide +kernel
theorem dX7_about_132 : decode cX7_about 132 = .ok (.invokevirtual 158, 3) := by decide +kernel
theorem dX7_about_135 : decode cX7_about 135 = .ok (.ireturn, 1) := by decide +kernel
theorem dX7_about_136 : decode cX7_about 136 = .ok (.aload_n 0, 1) := by decide +kernel
theorem dX7_about_137 : decode cX7_about 137 = .ok (.iload_n 1, 1) := by decide +kernel
theorem dX7_about_138 : decode cX7_about 138 = .ok (.aload_n 0, 1) := by decide +kernel
theorem dX7_about_139 : decode cX7_about 139 = .ok (.invokevirtual 161, 3) := by decide +kernel
theorem dX7_about_142 : decode cX7_about 142 = .ok (.invokevirtual 136, 3) := by decide +kernel
theorem dX7_about_145 : decode cX7_about 145 = .ok (.ireturn, 1) := by decide +kernel
theorem dX7_about_146 : decode cX7_about 146 = .ok (.aload_n 0, 1) := by decide +kernel
theorem dX7_about_147 : decode cX7_about 147 = .ok (.invokevirtual 165, 3) := by decide +kernel
theorem dX7_about_150 : decode cX7_about 150 = .ok (.aload_n 0, 1) := by decide +kernel
theorem dX7_about_151 : decode cX7_about 151 = .ok (.getfield 55, 3) := by decide +kernel
theorem dX7_about_154 : decode cX7_about 154 = .ok (.iload_n 1, 1) := by decide +kernel
theorem dX7_about_155 : decode cX7_about 155 = .ok (.iaload, 1) := by decide +kernel
theorem dX7_about_156 : decode cX7_about 156 = .ok (.ireturn, 1) := by decide +kernel
theorem dX7_about_157 : decode cX7_about 157 = .ok (.aload_n 0, 1) := by decide +kernel
theorem dX7_about_158 : decode cX7_about 158 = .ok (.aload_n 0, 1) := by decide +kernel
theorem dX7_about_159 : decode cX7_about 159 = .ok (.invokevirtual 161, 3) := by decide +kernel
theorem dX7_about_162 : decode cX7_about 162 = .ok (.invokevirtual 168, 3) := by decide +kernel
theorem dX7_about_165 : decode cX7_about 165 = .ok (.aload_n 0, 1) := by decide +kernel
theorem dX7_about_166 : decode cX7_about 166 = .ok (.getfield 49, 3) := by decide +kernel
theorem dX7_about_169 : decode cX7_about 169 = .ok (.iload_n 1, 1) := by decide +kernel
theorem dX7_about_170 : decode cX7_about 170 = .ok (.iaload, 1) := by decide +kernel
theorem dX7_about_171 : decode cX7_about 171 = .ok (.ireturn, 1) := by decide +kernel
theorem dX7_about_172 : decode cX7_about 172 = .ok (.aload_n 0, 1) := by decide +kernel
theorem dX7_about_173 : decode cX7_about 173 = .ok (.aload_n 0, 1) := by decide +kernel
theorem dX7_about_174 : decode cX7_about 174 = .ok (.invokevirtual 161, 3) := by decide +kernel
theorem dX7_about_177 : decode cX7_about 177 = .ok (.invokevirtual 168, 3) := by decide +kernel
theorem dX7_about_180 : decode cX7_about 180 = .ok (.aload_n 0, 1) := by decide +kernel
theorem dX7_about_181 : decode cX7_about 181 = .ok (.getfield 52, 3) := by decide +kernel
theorem dX7_about_184 : decode cX7_about 184 = .ok (.iload_n 1, 1) := by decide +kernel
theorem dX7_about_185 : decode cX7_about 185 = .ok (.iaload, 1) := by decide +kernel
theorem dX7_about_186 : decode cX7_about 186 = .ok (.ireturn, 1) := by decide +kernel
theorem dX7_about_187 : decode cX7_about 187 = .ok (.aload_n 0, 1) := by decide +kernel
theorem dX7_about_188 : decode cX7_about 188 = .ok (.invokevirtual 171, 3) := by decide +kernel
theorem dX7_about_191 : decode cX7_about 191 = .ok (.aload_n 0, 1) := by decide +kernel
theorem dX7_about_192 : decode cX7_about 192 = .ok (.getfield 68, 3) := by decide +kernel
theorem dX7_about_195 : decode cX7_about 195 = .ok (.iload_n 1, 1) := by decide +kernel
theorem dX7_about_196 : decode cX7_about 196 = .ok (.iaload, 1) := by decide +kernel
theorem dX7_about_197 : decode cX7_about 197 = .ok (.ireturn, 1) := by decide +kernel
theorem dX7_least_0 : decode cX7_least 0 = .ok (.aload_n 0, 1) := by decide +kernel
theorem dX7_least_1 : decode cX7_least 1 = .ok (.aload_n 0, 1) := by decide +kernel
theorem dX7_least_2 : decode cX7_least 2 = .ok (.invokevirtual 161, 3) := by decide +kernel
theorem dX7_least_5 : decode cX7_least 5 = .ok (.invokevirtual 168, 3) := by decide +kernel
theorem dX7_least_8 : decode cX7_least 8 = .ok (.aload_n 0, 1) := by decide +kernel
theorem dX7_least_9 : decode cX7_least 9 = .ok (.getfield 146, 3) := by decide +kernel
theorem dX7_least_12 : decode cX7_least 12 = .ok (.ireturn, 1) := by decide +kernel
theorem dX7_day_0 : decode cX7_day 0 = .ok (.iload_n 1, 1) := by decide +kernel
theorem dX7_day_1 : decode cX7_day 1 = .ok (.iconst 1, 1) := by decide +kernel
theorem dX7_day_2 : decode cX7_day 2 = .ok (.if_icmp .lt 13, 3) := by decide +kernel
theorem dX7_day_5 : decode cX7_day 5 = .ok (.iload_n 2, 1) := by decide +kernel
theorem dX7_day_6 : decode cX7_day 6 = .ok (.i2l, 1) := by decide +kernel
theorem dX7_day_7 : decode cX7_day 7 = .ok (.lconst 0, 1) := by decide +kernel
theorem dX7_day_8 : decode cX7_day 8 = .ok (.lconst 1, 1) := by decide +kernel
theorem dX7_day_9 : decode cX7_day 9 = .ok (.invokestatic 73, 3) := by decide +kernel
theorem dX7_day_12 : decode cX7_day 12 = .ok (.ifCond .ne 5, 3) := by decide +kernel
theorem dX7_day_15 : decode cX7_day 15 = .ok (.iconst (-1), 1) := by decide +kernel
theorem dX7_day_16 : decode cX7_day 16 = .ok (.ireturn, 1) := by decide +kernel
theorem dX7_day_17 : decode cX7_day 17 = .ok (.aload_n 0, 1) := by decide +kernel
theorem dX7_day_18 : decode cX7_day 18 = .ok (.aload_n 0, 1) := by decide +kernel
theorem dX7_day_19 : decode cX7_day 19 = .ok (.invokevirtual 161, 3) := by decide +kernel
theorem dX7_day_22 : decode cX7_day 22 = .ok (.invokevirtual 168, 3) := by decide +kernel
theorem dX7_day_25 : decode cX7_day 25 = .ok (.bipush (-3), 2) := by decide +kernel
theorem dX7_day_27 : decode cX7_day 27 = .ok (.istore_n 3, 1) := by decide +kernel
theorem dX7_day_28 : decode cX7_day 28 = .ok (.bipush (-3), 2) := by decide +kernel
theorem dX7_day_30 : decode cX7_day 30 = .ok (.istore 4, 2) := by decide +kernel
theorem dX7_day_32 : decode cX7_day 32 = .ok (.iconst 0, 1) := by decide +kernel
theorem dX7_day_33 : decode cX7_day 33 = .ok (.istore 5, 2) := by decide +kernel
theorem dX7_day_35 : decode cX7_day 35 = .ok (.iload 5, 2) := by decide +kernel
theorem dX7_day_37 : decode cX7_day 37 = .ok (.aload_n 0, 1) := by decide +kernel
theorem dX7_day_38 : decode cX7_day 38 = .ok (.getfield 91, 3) := by decide +kernel
theorem dX7_day_41 : decode cX7_day 41 = .ok (.if_icmp .ge 74, 3) := by decide +kernel
theorem dX7_day_44 : decode cX7_day 44 = .ok (.aload_n 0, 1) := by decide +kernel
theorem dX7_day_45 : decode cX7_day 45 = .ok (.getfield 52, 3) := by decide +kernel
theorem dX7_day_48 : decode cX7_day 48 = .ok (.iload 5, 2) := by decide +kernel
theorem dX7_day_50 : decode cX7_day 50 = .ok (.iaload, 1) := by decide +kernel
theorem dX7_day_51 : decode cX7_day 51 = .ok (.iload_n 1, 1) := by decide +kernel
theorem dX7_day_52 : decode cX7_day 52 = .ok (.if_icmp .ne 57, 3) := by decide +kernel
theorem dX7_day_55 : decode cX7_day 55 = .ok (.iload_n 3, 1) := by decide +kernel
theorem dX7_day_56 : decode cX7_day 56 = .ok (.bipush (-3), 2) := by decide +kernel
theorem dX7_day_58 : decode cX7_day 58 = .ok (.if_icmp .eq 19, 3) := by decide +kernel
theorem dX7_day_61 : decode cX7_day 61 = .ok (.aload_n 0, 1) := by decide +kernel
theorem dX7_day_62 : decode cX7_day 62 = .ok (.getfield 49, 3) := by decide +kernel
theorem dX7_day_65 : decode cX7_day 65 = .ok (.iload 5, 2) := by decide +kernel
theorem dX7_day_67 : decode cX7_day 67 = .ok (.iaload, 1) := by decide +kernel
theorem dX7_day_68 : decode cX7_day 68 = .ok (.aload_n 0, 1) := by decide +kernel
theorem dX7_day_69 : decode cX7_day 69 = .ok (.getfield 49, 3) := by decide +kernel
theorem dX7_day_72 : decode cX7_day 72 = .ok (.iload_n 3, 1) := by decide +kernel
theorem dX7_day_73 : decode cX7_day 73 = .ok (.iaload, 1) := by decide +kernel
theorem dX7_day_74 : decode cX7_day 74 = .ok (.if_icmp .le 7, 3) := by decide +kernel
theorem dX7_day_77 : decode cX7_day 77 = .ok (.iconst 1, 1) := by decide +kernel
theorem dX7_day_78 : decode cX7_day 78 = .ok (.goto 4, 3) := by decide +kernel
theorem dX7_day_81 : decode cX7_day 81 = .ok (.iconst 0, 1) := by decide +kernel
theorem dX7_day_82 : decode cX7_day 82 = .ok (.istore 6, 2) := by decide +kernel
theorem dX7_day_84 : decode cX7_day 84 = .ok (.iload 6, 2) := by decide +kernel
theorem dX7_day_86 : decode cX7_day 86 = .ok (.ifCond .eq 7, 3) := by decide +kernel
theorem dX7_day_89 : decode cX7_day 89 = .ok (.iload_n 3, 1) := by decide +kernel
theorem dX7_day_90 : decode cX7_day 90 = .ok (.goto 5, 3) := by decide +kernel
theorem dX7_day_93 : decode cX7_day 93 = .ok (.iload 5, 2) := by decide +kernel
theorem dX7_day_95 : decode cX7_day 95 = .ok (.istore 4, 2) := by decide +kernel
theorem dX7_day_97 : decode cX7_day 97 = .ok (.iload 6, 2) := by decide +kernel
theorem dX7_day_99 : decode cX7_day 99 = .ok (.ifCond .eq 8, 3) := by decide +kernel
theorem dX7_day_102 : decode cX7_day 102 = .ok (.iload 5, 2) := by decide +kernel
theorem dX7_day_104 : decode cX7_day 104 = .ok (.goto 4, 3) := by decide +kernel
theorem dX7_day_107 : decode cX7_day 107 = .ok (.iload_n 3, 1) := by decide +kernel
theorem dX7_day_108 : decode cX7_day 108 = .ok (.istore_n 3, 1) := by decide +kernel
theorem dX7_day_109 : decode cX7_day 109 = .ok (.iinc 5 1, 3) := by decide +kernel
theorem dX7_day_112 : decode cX7_day 112 = .ok (.goto (-77), 3) := by decide +kernel
theorem dX7_day_115 : decode cX7_day 115 = .ok (.iload_n 2, 1) := by decide +kernel
theorem dX7_day_116 : decode cX7_day 116 = .ok (.ifCond .ne 7, 3) := by decide +kernel
theorem dX7_day_119 : decode cX7_day 119 = .ok (.iload_n 3, 1) := by decide +kernel
theorem dX7_day_120 : decode cX7_day 120 = .ok (.goto 5, 3) := by decide +kernel
theorem dX7_day_123 : decode cX7_day 123 = .ok (.iload 4, 2) := by decide +kernel
theorem dX7_day_125 : decode cX7_day 125 = .ok (.ireturn, 1) := by decide +kernel
theorem dX7_inHour_0 : decode cX7_inHour 0 = .ok (.iconst 0, 1) := by decide +kernel
theorem dX7_inHour_1 : decode cX7_inHour 1 = .ok (.istore_n 2, 1) := by decide +kernel
theorem dX7_inHour_2 : decode cX7_inHour 2 = .ok (.iconst 0, 1) := by decide +kernel
theorem dX7_inHour_3 : decode cX7_inHour 3 = .ok (.istore_n 3, 1) := by decide +kernel
theorem dX7_inHour_4 : decode cX7_inHour 4 = .ok (.iload_n 3, 1) := by decide +kernel
theorem dX7_inHour_5 : decode cX7_inHour 5 = .ok (.aload_n 0, 1) := by decide +kernel
theorem dX7_inHour_6 : decode cX7_inHour 6 = .ok (.getfield 91, 3) := by decide +kernel
theorem dX7_inHour_9 : decode cX7_inHour 9 = .ok (.if_icmp .ge 27, 3) := by decide +kernel
theorem dX7_inHour_12 : decode cX7_inHour 12 = .ok (.iload_n 2, 1) := by decide +kernel
theorem dX7_inHour_13 : decode cX7_inHour 13 = .ok (.aload_n 0, 1) := by decide +kernel
theorem dX7_inHour_14 : decode cX7_inHour 14 = .ok (.getfield 52, 3) := by decide +kernel
theorem dX7_inHour_17 : decode cX7_inHour 17 = .ok (.iload_n 3, 1) := by decide +kernel
theorem dX7_inHour_18 : decode cX7_inHour 18 = .ok (.iaload, 1) := by decide +kernel
theorem dX7_inHour_19 : decode cX7_inHour 19 = .ok (.iload_n 1, 1) := by decide +kernel
theorem dX7_inHour_20 : decode cX7_inHour 20 = .ok (.if_icmp .ne 7, 3) := by decide +kernel
theorem dX7_inHour_23 : decode cX7_inHour 23 = .ok (.iconst 1, 1) := by decide +kernel
theorem dX7_inHour_24 : decode cX7_inHour 24 = .ok (.goto 4, 3) := by decide +kernel
theorem dX7_inHour_27 : decode cX7_inHour 27 = .ok (.iconst 0, 1) := by decide +kernel
theorem dX7_inHour_28 : decode cX7_inHour 28 = .ok (.iadd, 1) := by decide +kernel
theorem dX7_inHour_29 : decode cX7_inHour 29 = .ok (.istore_n 2, 1) := by decide +kernel
theorem dX7_inHour_30 : decode cX7_inHour 30 = .ok (.iinc 3 1, 3) := by decide +kernel
theorem dX7_inHour_33 : decode cX7_inHour 33 = .ok (.goto (-29), 3) := by decide +kernel
theorem dX7_inHour_36 : decode cX7_inHour 36 = .ok (.iload_n 2, 1) := by decide +kernel
theorem dX7_inHour_37 : decode cX7_inHour 37 = .ok (.ireturn, 1) := by decide +kernel
theorem dX7_idle_0 : decode cX7_idle 0 = .ok (.iload_n 1, 1) := by decide +kernel
theorem dX7_idle_1 : decode cX7_idle 1 = .ok (.ifCond .ge 5, 3) := by decide +kernel
theorem dX7_idle_4 : decode cX7_idle 4 = .ok (.iconst (-1), 1) := by decide +kernel
theorem dX7_idle_5 : decode cX7_idle 5 = .ok (.ireturn, 1) := by decide +kernel
theorem dX7_idle_6 : decode cX7_idle 6 = .ok (.aload_n 0, 1) := by decide +kernel
theorem dX7_idle_7 : decode cX7_idle 7 = .ok (.aload_n 0, 1) := by decide +kernel
theorem dX7_idle_8 : decode cX7_idle 8 = .ok (.invokevirtual 161, 3) := by decide +kernel
theorem dX7_idle_11 : decode cX7_idle 11 = .ok (.invokevirtual 168, 3) := by decide +kernel
theorem dX7_idle_14 : decode cX7_idle 14 = .ok (.iload_n 1, 1) := by decide +kernel
theorem dX7_idle_15 : decode cX7_idle 15 = .ok (.istore_n 2, 1) := by decide +kernel
theorem dX7_idle_16 : decode cX7_idle 16 = .ok (.iconst 1, 1) := by decide +kernel
theorem dX7_idle_17 : decode cX7_idle 17 = .ok (.istore_n 3, 1) := by decide +kernel
theorem dX7_idle_18 : decode cX7_idle 18 = .ok (.iload_n 3, 1) := by decide +kernel
theorem dX7_idle_19 : decode cX7_idle 19 = .ok (.aload_n 0, 1) := by decide +kernel
theorem dX7_idle_20 : decode cX7_idle 20 = .ok (.getfield 146, 3) := by decide +kernel
theorem dX7_idle_23 : decode cX7_idle 23 = .ok (.if_icmp .gt 27, 3) := by decide +kernel
theorem dX7_idle_26 : decode cX7_idle 26 = .ok (.aload_n 0, 1) := by decide +kernel
theorem dX7_idle_27 : decode cX7_idle 27 = .ok (.iload_n 3, 1) := by decide +kernel
theorem dX7_idle_28 : decode cX7_idle 28 = .ok (.invokevirtual 174, 3) := by decide +kernel
theorem dX7_idle_31 : decode cX7_idle 31 = .ok (.iconst 1, 1) := by decide +kernel
theorem dX7_idle_32 : decode cX7_idle 32 = .ok (.if_icmp .ne 12, 3) := by decide +kernel
theorem dX7_idle_35 : decode cX7_idle 35 = .ok (.iload_n 2, 1) := by decide +kernel
theorem dX7_idle_36 : decode cX7_idle 36 = .ok (.ifCond .ne 5, 3) := by decide +kernel
theorem dX7_idle_39 : decode cX7_idle 39 = .ok (.iload_n 3, 1) := by decide +kernel
theorem dX7_idle_40 : decode cX7_idle 40 = .ok (.ireturn, 1) := by decide +kernel
theorem dX7_idle_41 : decode cX7_idle 41 = .ok (.iinc 2 (-1), 3) := by decide +kernel
theorem dX7_idle_44 : decode cX7_idle 44 = .ok (.iinc 3 1, 3) := by decide +kernel
theorem dX7_idle_47 : decode cX7_idle 47 = .ok (.goto (-29), 3) := by decide +kernel
theorem dX7_idle_50 : decode cX7_idle 50 = .ok (.bipush (-3), 2) := by decide +kernel
theorem dX7_idle_52 : decode cX7_idle 52 = .ok (.ireturn, 1) := by decide +kernel
theorem dX7_pairs_0 : decode cX7_pairs 0 = .ok (.aload_n 0, 1) := by decide +kernel
theorem dX7_pairs_1 : decode cX7_pairs 1 = .ok (.invokevirtual 115, 3) := by decide +kernel
theorem dX7_pairs_4 : decode cX7_pairs 4 = .ok (.aload_n 0, 1) := by decide +kernel
theorem dX7_pairs_5 : decode cX7_pairs 5 = .ok (.getfield 58, 3) := by decide +kernel
theorem dX7_pairs_8 : decode cX7_pairs 8 = .ok (.iconst 0, 1) := by decide +kernel
theorem dX7_pairs_9 : decode cX7_pairs 9 = .ok (.iconst 0, 1) := by decide +kernel
theorem dX7_pairs_10 : decode cX7_pairs 10 = .ok (.iastore, 1) := by decide +kernel
theorem dX7_pairs_11 : decode cX7_pairs 11 = .ok (.iconst 1, 1) := by decide +kernel
theorem dX7_pairs_12 : decode cX7_pairs 12 = .ok (.istore_n 1, 1) := by decide +kernel
theorem dX7_pairs_13 : decode cX7_pairs 13 = .ok (.iload_n 1, 1) := by decide +kernel
theorem dX7_pairs_14 : decode cX7_pairs 14 = .ok (.iconst 1, 1) := by decide +kernel
theorem dX7_pairs_15 : decode cX7_pairs 15 = .ok (.aload_n 0, 1) := by decide +kernel
theorem dX7_pairs_16 : decode cX7_pairs 16 = .ok (.getfield 91, 3) := by decide +kernel
theorem dX7_pairs_19 : decode cX7_pairs 19 = .ok (.ishl, 1) := by decide +kernel
theorem dX7_pairs_20 : decode cX7_pairs 20 = .ok (.if_icmp .ge 132, 3) := by decide +kernel
theorem dX7_pairs_23 : decode cX7_pairs 23 = .ok (.iconst 0, 1) := by decide +kernel
theorem dX7_pairs_24 : decode cX7_pairs 24 = .ok (.istore_n 2, 1) := by decide +kernel
theorem dX7_pairs_25 : decode cX7_pairs 25 = .ok (.iload_n 1, 1) := by decide +kernel
theorem dX7_pairs_26 : decode cX7_pairs 26 = .ok (.iload_n 2, 1) := by decide +kernel
theorem dX7_pairs_27 : decode cX7_pairs 27 = .ok (.ishr, 1) := by decide +kernel
theorem dX7_pairs_28 : decode cX7_pairs 28 = .ok (.iconst 1, 1) := by decide +kernel
theorem dX7_pairs_29 : decode cX7_pairs 29 = .ok (.iand, 1) := by decide +kernel
theorem dX7_pairs_30 : decode cX7_pairs 30 = .ok (.ifCond .ne 9, 3) := by decide +kernel
theorem dX7_pairs_33 : decode cX7_pairs 33 = .ok (.iinc 2 1, 3) := by decide +kernel
theorem dX7_pairs_36 : decode cX7_pairs 36 = .ok (.goto (-11), 3) := by decide +kernel
theorem dX7_pairs_39 : decode cX7_pairs 39 = .ok (.iload_n 1, 1) := by decide +kernel
theorem dX7_pairs_40 : decode cX7_pairs 40 = .ok (.iconst 1, 1) := by decide +kernel
theorem dX7_pairs_41 : decode cX7_pairs 41 = .ok (.iload_n 2, 1) := by decide +kernel
theorem dX7_pairs_42 : decode cX7_pairs 42 = .ok (.ishl, 1) := by decide +kernel
theorem dX7_pairs_43 : decode cX7_pairs 43 = .ok (.iconst (-1), 1) := by decide +kernel
theorem dX7_pairs_44 : decode cX7_pairs 44 = .ok (.ixor, 1) := by decide +kernel
theorem dX7_pairs_45 : decode cX7_pairs 45 = .ok (.iand, 1) := by decide +kernel
theorem dX7_pairs_46 : decode cX7_pairs 46 = .ok (.istore_n 3, 1) := by decide +kernel
theorem dX7_pairs_47 : decode cX7_pairs 47 = .ok (.aload_n 0, 1) := by decide +kernel
theorem dX7_pairs_48 : decode cX7_pairs 48 = .ok (.getfield 58, 3) := by decide +kernel
theorem dX7_pairs_51 : decode cX7_pairs 51 = .ok (.iload_n 3, 1) := by decide +kernel
theorem dX7_pairs_52 : decode cX7_pairs 52 = .ok (.iaload, 1) := by decide +kernel
theorem dX7_pairs_53 : decode cX7_pairs 53 = .ok (.istore 4, 2) := by decide +kernel
theorem dX7_pairs_55 : decode cX7_pairs 55 = .ok (.iload_n 2, 1) := by decide +kernel
theorem dX7_pairs_56 : decode cX7_pairs 56 = .ok (.iconst 1, 1) := by decide +kernel
theorem dX7_pairs_57 : decode cX7_pairs 57 = .ok (.iadd, 1) := by decide +kernel
theorem dX7_pairs_58 : decode cX7_pairs 58 = .ok (.istore 5, 2) := by decide +kernel
theorem dX7_pairs_60 : decode cX7_pairs 60 = .ok (.iload 5, 2) := by decide +kernel
theorem dX7_pairs_62 : decode cX7_pairs 62 = .ok (.aload_n 0, 1) := by decide +kernel
theorem dX7_pairs_63 : decode cX7_pairs 63 = .ok (.getfield 91, 3) := by decide +kernel
theorem dX7_pairs_66 : decode cX7_pairs 66 = .ok (.if_icmp .ge 72, 3) := by decide +kernel
theorem dX7_pairs_69 : decode cX7_pairs 69 = .ok (.iload_n 3, 1) := by decide +kernel
theorem dX7_pairs_70 : decode cX7_pairs 70 = .ok (.iload 5, 2) := by decide +kernel
theorem dX7_pairs_72 : decode cX7_pairs 72 = .ok (.ishr, 1) := by decide +kernel
theorem dX7_pairs_73 : decode cX7_pairs 73 = .ok (.iconst 1, 1) := by decide +kernel
theorem dX7_pairs_74 : decode cX7_pairs 74 = .ok (.iand, 1) := by decide +kernel
theorem dX7_pairs_75 : decode cX7_pairs 75 = .ok (.iconst 1, 1) := by decide +kernel
theorem dX7_pairs_76 : decode cX7_pairs 76 = .ok (.if_icmp .ne 56, 3) := by decide +kernel
theorem dX7_pairs_79 : decode cX7_pairs 79 = .ok (.aload_n 0, 1) := by decide +kernel
theorem dX7_pairs_80 : decode cX7_pairs 80 = .ok (.iload_n 2, 1) := by decide +kernel
theorem dX7_pairs_81 : decode cX7_pairs 81 = .ok (.iload 5, 2) := by decide +kernel
theorem dX7_pairs_83 : decode cX7_pairs 83 = .ok (.invokevirtual 118, 3) := by decide +kernel
theorem dX7_pairs_86 : decode cX7_pairs 86 = .ok (.ifCond .ne 46, 3) := by decide +kernel
theorem dX7_pairs_89 : decode cX7_pairs 89 = .ok (.aload_n 0, 1) := by decide +kernel
theorem dX7_pairs_90 : decode cX7_pairs 90 = .ok (.iload 5, 2) := by decide +kernel
theorem dX7_pairs_92 : decode cX7_pairs 92 = .ok (.iload_n 2, 1) := by decide +kernel
theorem dX7_pairs_93 : decode cX7_pairs 93 = .ok (.invokevirtual 118, 3) := by decide +kernel
theorem dX7_pairs_96 : decode cX7_pairs 96 = .ok (.ifCond .ne 36, 3) := by decide +kernel
theorem dX7_pairs_99 : decode cX7_pairs 99 = .ok (.iconst 1, 1) := by decide +kernel
theorem dX7_pairs_100 : decode cX7_pairs 100 = .ok (.aload_n 0, 1) := by decide +kernel
theorem dX7_pairs_101 : decode cX7_pairs 101 = .ok (.getfield 58, 3) := by decide +kernel
theorem dX7_pairs_104 : decode cX7_pairs 104 = .ok (.iload_n 3, 1) := by decide +kernel
theorem dX7_pairs_105 : decode cX7_pairs 105 = .ok (.iconst 1, 1) := by decide +kernel
theorem dX7_pairs_106 : decode cX7_pairs 106 = .ok (.iload 5, 2) := by decide +kernel
theorem dX7_pairs_108 : decode cX7_pairs 108 = .ok (.ishl, 1) := by decide +kernel
theorem dX7_pairs_109 : decode cX7_pairs 109 = .ok (.iconst (-1), 1) := by decide +kernel
theorem dX7_pairs_110 : decode cX7_pairs 110 = .ok (.ixor, 1) := by decide +kernel
theorem dX7_pairs_111 : decode cX7_pairs 111 = .ok (.iand, 1) := by decide +kernel
theorem dX7_pairs_112 : decode cX7_pairs 112 = .ok (.iaload, 1) := by decide +kernel
theorem dX7_pairs_113 : decode cX7_pairs 113 = .ok (.iadd, 1) := by decide +kernel
theorem dX7_pairs_114 : decode cX7_pairs 114 = .ok (.istore 6, 2) := by decide +kernel
theorem dX7_pairs_116 : decode cX7_pairs 116 = .ok (.iload 6, 2) := by decide +kernel
theorem dX7_pairs_118 : decode cX7_pairs 118 = .ok (.iload 4, 2) := by decide +kernel
theorem dX7_pairs_120 : decode cX7_pairs 120 = .ok (.if_icmp .le 8, 3) := by decide +kernel
theorem dX7_pairs_123 : decode cX7_pairs 123 = .ok (.iload 6, 2) := by decide +kernel
theorem dX7_pairs_125 : decode cX7_pairs 125 = .ok (.goto 5, 3) := by decide +kernel
theorem dX7_pairs_128 : decode cX7_pairs 128 = .ok (.iload 4, 2) := by decide +kernel
theorem dX7_pairs_130 : decode cX7_pairs 130 = .ok (.istore 4, 2) := by decide +kernel
theorem dX7_pairs_132 : decode cX7_pairs 132 = .ok (.iinc 5 1, 3) := by decide +kernel
theorem dX7_pairs_135 : decode cX7_pairs 135 = .ok (.goto (-75), 3) := by decide +kernel
theorem dX7_pairs_138 : decode cX7_pairs 138 = .ok (.aload_n 0, 1) := by decide +kernel
theorem dX7_pairs_139 : decode cX7_pairs 139 = .ok (.getfield 58, 3) := by decide +kernel
theorem dX7_pairs_142 : decode cX7_pairs 142 = .ok (.iload_n 1, 1) := by decide +kernel
theorem dX7_pairs_143 : decode cX7_pairs 143 = .ok (.iload 4, 2) := by decide +kernel
theorem dX7_pairs_145 : decode cX7_pairs 145 = .ok (.iastore, 1) := by decide +kernel
theorem dX7_pairs_146 : decode cX7_pairs 146 = .ok (.iinc 1 1, 3) := by decide +kernel
theorem dX7_pairs_149 : decode cX7_pairs 149 = .ok (.goto (-136), 3) := by decide +kernel
theorem dX7_pairs_152 : decode cX7_pairs 152 = .ok (.aload_n 0, 1) := by decide +kernel
theorem dX7_pairs_153 : decode cX7_pairs 153 = .ok (.getfield 58, 3) := by decide +kernel
theorem dX7_pairs_156 : decode cX7_pairs 156 = .ok (.aload_n 0, 1) := by decide +kernel
theorem dX7_pairs_157 : decode cX7_pairs 157 = .ok (.invokevirtual 161, 3) := by decide +kernel
theorem dX7_pairs_160 : decode cX7_pairs 160 = .ok (.iaload, 1) := by decide +kernel
theorem dX7_pairs_161 : decode cX7_pairs 161 = .ok (.ireturn, 1) := by decide +kernel
theorem dX7_rest_0 : decode cX7_rest 0 = .ok (.iload_n 1, 1) := by decide +kernel
theorem dX7_rest_1 : decode cX7_rest 1 = .ok (.ifCond .ge 5, 3) := by decide +kernel
theorem dX7_rest_4 : decode cX7_rest 4 = .ok (.iconst (-1), 1) := by decide +kernel
theorem dX7_rest_5 : decode cX7_rest 5 = .ok (.ireturn, 1) := by decide +kernel
theorem dX7_rest_6 : decode cX7_rest 6 = .ok (.aload_n 0, 1) := by decide +kernel
theorem dX7_rest_7 : decode cX7_rest 7 = .ok (.aload_n 0, 1) := by decide +kernel
theorem dX7_rest_8 : decode cX7_rest 8 = .ok (.invokevirtual 161, 3) := by decide +kernel
theorem dX7_rest_11 : decode cX7_rest 11 = .ok (.invokevirtual 168, 3) := by decide +kernel
theorem dX7_rest_14 : decode cX7_rest 14 = .ok (.iconst 0, 1) := by decide +kernel
theorem dX7_rest_15 : decode cX7_rest 15 = .ok (.istore_n 2, 1) := by decide +kernel
theorem dX7_rest_16 : decode cX7_rest 16 = .ok (.iconst 0, 1) := by decide +kernel
theorem dX7_rest_17 : decode cX7_rest 17 = .ok (.istore_n 3, 1) := by decide +kernel
theorem dX7_rest_18 : decode cX7_rest 18 = .ok (.iload_n 3, 1) := by decide +kernel
theorem dX7_rest_19 : decode cX7_rest 19 = .ok (.aload_n 0, 1) := by decide +kernel
theorem dX7_rest_20 : decode cX7_rest 20 = .ok (.getfield 91, 3) := by decide +kernel
theorem dX7_rest_23 : decode cX7_rest 23 = .ok (.if_icmp .ge 29, 3) := by decide +kernel
theorem dX7_rest_26 : decode cX7_rest 26 = .ok (.iload_n 2, 1) := by decide +kernel
theorem dX7_rest_27 : decode cX7_rest 27 = .ok (.aload_n 0, 1) := by decide +kernel
theorem dX7_rest_28 : decode cX7_rest 28 = .ok (.getfield 52, 3) := by decide +kernel
theorem dX7_rest_31 : decode cX7_rest 31 = .ok (.iload_n 3, 1) := by decide +kernel
theorem dX7_rest_32 : decode cX7_rest 32 = .ok (.iaload, 1) := by decide +kernel
theorem dX7_rest_33 : decode cX7_rest 33 = .ok (.iload_n 1, 1) := by decide +kernel
theorem dX7_rest_34 : decode cX7_rest 34 = .ok (.if_icmp .le 9, 3) := by decide +kernel
theorem dX7_rest_37 : decode cX7_rest 37 = .ok (.iconst 1, 1) := by decide +kernel
theorem dX7_rest_38 : decode cX7_rest 38 = .ok (.iload_n 3, 1) := by decide +kernel
theorem dX7_rest_39 : decode cX7_rest 39 = .ok (.ishl, 1) := by decide +kernel
theorem dX7_rest_40 : decode cX7_rest 40 = .ok (.goto 4, 3) := by decide +kernel
theorem dX7_rest_43 : decode cX7_rest 43 = .ok (.iconst 0, 1) := by decide +kernel
theorem dX7_rest_44 : decode cX7_rest 44 = .ok (.ior, 1) := by decide +kernel
theorem dX7_rest_45 : decode cX7_rest 45 = .ok (.istore_n 2, 1) := by decide +kernel
theorem dX7_rest_46 : decode cX7_rest 46 = .ok (.iinc 3 1, 3) := by decide +kernel
theorem dX7_rest_49 : decode cX7_rest 49 = .ok (.goto (-31), 3) := by decide +kernel
theorem dX7_rest_52 : decode cX7_rest 52 = .ok (.aload_n 0, 1) := by decide +kernel
theorem dX7_rest_53 : decode cX7_rest 53 = .ok (.iload_n 2, 1) := by decide +kernel
theorem dX7_rest_54 : decode cX7_rest 54 = .ok (.invokevirtual 168, 3) := by decide +kernel
theorem dX7_rest_57 : decode cX7_rest 57 = .ok (.aload_n 0, 1) := by decide +kernel
theorem dX7_rest_58 : decode cX7_rest 58 = .ok (.getfield 146, 3) := by decide +kernel
theorem dX7_rest_61 : decode cX7_rest 61 = .ok (.ireturn, 1) := by decide +kernel
theorem dX7_may_0 : decode cX7_may 0 = .ok (.iload_n 3, 1) := by decide +kernel
theorem dX7_may_1 : decode cX7_may 1 = .ok (.iload_n 1, 1) := by decide +kernel
theorem dX7_may_2 : decode cX7_may 2 = .ok (.ishr, 1) := by decide +kernel
theorem dX7_may_3 : decode cX7_may 3 = .ok (.iconst 1, 1) := by decide +kernel
theorem dX7_may_4 : decode cX7_may 4 = .ok (.iand, 1) := by decide +kernel
theorem dX7_may_5 : decode cX7_may 5 = .ok (.ifCond .ne 62, 3) := by decide +kernel
theorem dX7_may_8 : decode cX7_may 8 = .ok (.aload_n 0, 1) := by decide +kernel
theorem dX7_may_9 : decode cX7_may 9 = .ok (.getfield 43, 3) := by decide +kernel
theorem dX7_may_12 : decode cX7_may 12 = .ok (.iload_n 1, 1) := by decide +kernel
theorem dX7_may_13 : decode cX7_may 13 = .ok (.iaload, 1) := by decide +kernel
theorem dX7_may_14 : decode cX7_may 14 = .ok (.iload_n 3, 1) := by decide +kernel
theorem dX7_may_15 : decode cX7_may 15 = .ok (.iconst (-1), 1) := by decide +kernel
theorem dX7_may_16 : decode cX7_may 16 = .ok (.ixor, 1) := by decide +kernel
theorem dX7_may_17 : decode cX7_may 17 = .ok (.iand, 1) := by decide +kernel
theorem dX7_may_18 : decode cX7_may 18 = .ok (.ifCond .ne 49, 3) := by decide +kernel
theorem dX7_may_21 : decode cX7_may 21 = .ok (.aload_n 0, 1) := by decide +kernel
theorem dX7_may_22 : decode cX7_may 22 = .ok (.getfield 22, 3) := by decide +kernel
theorem dX7_may_25 : decode cX7_may 25 = .ok (.iload_n 1, 1) := by decide +kernel
theorem dX7_may_26 : decode cX7_may 26 = .ok (.iaload, 1) := by decide +kernel
theorem dX7_may_27 : decode cX7_may 27 = .ok (.bipush (-3), 2) := by decide +kernel
theorem dX7_may_29 : decode cX7_may 29 = .ok (.if_icmp .eq 13, 3) := by decide +kernel
theorem dX7_may_32 : decode cX7_may 32 = .ok (.iload_n 2, 1) := by decide +kernel
theorem dX7_may_33 : decode cX7_may 33 = .ok (.aload_n 0, 1) := by decide +kernel
theorem dX7_may_34 : decode cX7_may 34 = .ok (.getfield 22, 3) := by decide +kernel
theorem dX7_may_37 : decode cX7_may 37 = .ok (.iload_n 1, 1) := by decide +kernel
theorem dX7_may_38 : decode cX7_may 38 = .ok (.iaload, 1) := by decide +kernel
theorem dX7_may_39 : decode cX7_may 39 = .ok (.if_icmp .lt 28, 3) := by decide +kernel
theorem dX7_may_42 : decode cX7_may 42 = .ok (.aload_n 0, 1) := by decide +kernel
theorem dX7_may_43 : decode cX7_may 43 = .ok (.getfield 25, 3) := by decide +kernel
theorem dX7_may_46 : decode cX7_may 46 = .ok (.iload_n 1, 1) := by decide +kernel
theorem dX7_may_47 : decode cX7_may 47 = .ok (.iaload, 1) := by decide +kernel
theorem dX7_may_48 : decode cX7_may 48 = .ok (.bipush (-3), 2) := by decide +kernel
theorem dX7_may_50 : decode cX7_may 50 = .ok (.if_icmp .eq 13, 3) := by decide +kernel
theorem dX7_may_53 : decode cX7_may 53 = .ok (.iload_n 2, 1) := by decide +kernel
theorem dX7_may_54 : decode cX7_may 54 = .ok (.aload_n 0, 1) := by decide +kernel
theorem dX7_may_55 : decode cX7_may 55 = .ok (.getfield 25, 3) := by decide +kernel
theorem dX7_may_58 : decode cX7_may 58 = .ok (.iload_n 1, 1) := by decide +kernel
theorem dX7_may_59 : decode cX7_may 59 = .ok (.iaload, 1) := by decide +kernel
theorem dX7_may_60 : decode cX7_may 60 = .ok (.if_icmp .gt 7, 3) := by decide +kernel
theorem dX7_may_63 : decode cX7_may 63 = .ok (.iconst 1, 1) := by decide +kernel
theorem dX7_may_64 : decode cX7_may 64 = .ok (.goto 4, 3) := by decide +kernel
theorem dX7_may_67 : decode cX7_may 67 = .ok (.iconst 0, 1) := by decide +kernel
theorem dX7_may_68 : decode cX7_may 68 = .ok (.ireturn, 1) := by decide +kernel
theorem dX7_may2_0 : decode cX7_may2 0 = .ok (.aload_n 0, 1) := by decide +kernel
theorem dX7_may2_1 : decode cX7_may2 1 = .ok (.getfield 28, 3) := by decide +kernel
theorem dX7_may2_4 : decode cX7_may2 4 = .ok (.iload_n 1, 1) := by decide +kernel
theorem dX7_may2_5 : decode cX7_may2 5 = .ok (.iaload, 1) := by decide +kernel
theorem dX7_may2_6 : decode cX7_may2 6 = .ok (.bipush (-3), 2) := by decide +kernel
theorem dX7_may2_8 : decode cX7_may2 8 = .ok (.if_icmp .eq 18, 3) := by decide +kernel
theorem dX7_may2_11 : decode cX7_may2 11 = .ok (.aload_n 0, 1) := by decide +kernel
theorem dX7_may2_12 : decode cX7_may2 12 = .ok (.getfield 28, 3) := by decide +kernel
theorem dX7_may2_15 : decode cX7_may2 15 = .ok (.iload_n 1, 1) := by decide +kernel
theorem dX7_may2_16 : decode cX7_may2 16 = .ok (.iaload, 1) := by decide +kernel
theorem dX7_may2_17 : decode cX7_may2 17 = .ok (.aload_n 0, 1) := by decide +kernel
theorem dX7_may2_18 : decode cX7_may2 18 = .ok (.getfield 28, 3) := by decide +kernel
theorem dX7_may2_21 : decode cX7_may2 21 = .ok (.iload_n 2, 1) := by decide +kernel
theorem dX7_may2_22 : decode cX7_may2 22 = .ok (.iaload, 1) := by decide +kernel
theorem dX7_may2_23 : decode cX7_may2 23 = .ok (.if_icmp .eq 7, 3) := by decide +kernel
theorem dX7_may2_26 : decode cX7_may2 26 = .ok (.iconst 1, 1) := by decide +kernel
theorem dX7_may2_27 : decode cX7_may2 27 = .ok (.goto 4, 3) := by decide +kernel
theorem dX7_may2_30 : decode cX7_may2 30 = .ok (.iconst 0, 1) := by decide +kernel
theorem dX7_may2_31 : decode cX7_may2 31 = .ok (.ireturn, 1) := by decide +kernel
theorem dX7_codeOf_0 : decode cX7_codeOf 0 = .ok (.iload_n 0, 1) := by decide +kernel
theorem dX7_codeOf_1 : decode cX7_codeOf 1 = .ok (.bipush (-3), 2) := by decide +kernel
theorem dX7_codeOf_3 : decode cX7_codeOf 3 = .ok (.if_icmp .ne 8, 3) := by decide +kernel
theorem dX7_codeOf_6 : decode cX7_codeOf 6 = .ok (.bipush 120, 2) := by decide +kernel
theorem dX7_codeOf_8 : decode cX7_codeOf 8 = .ok (.goto 25, 3) := by decide +kernel
theorem dX7_codeOf_11 : decode cX7_codeOf 11 = .ok (.iload_n 1, 1) := by decide +kernel
theorem dX7_codeOf_12 : decode cX7_codeOf 12 = .ok (.bipush (-3), 2) := by decide +kernel
theorem dX7_codeOf_14 : decode cX7_codeOf 14 = .ok (.if_icmp .ne 13, 3) := by decide +kernel
theorem dX7_codeOf_17 : decode cX7_codeOf 17 = .ok (.bipush 11, 2) := by decide +kernel
theorem dX7_codeOf_19 : decode cX7_codeOf 19 = .ok (.iload_n 0, 1) := by decide +kernel
theorem dX7_codeOf_20 : decode cX7_codeOf 20 = .ok (.imul, 1) := by decide +kernel
theorem dX7_codeOf_21 : decode cX7_codeOf 21 = .ok (.bipush 10, 2) := by decide +kernel
theorem dX7_codeOf_23 : decode cX7_codeOf 23 = .ok (.iadd, 1) := by decide +kernel
theorem dX7_codeOf_24 : decode cX7_codeOf 24 = .ok (.goto 9, 3) := by decide +kernel
theorem dX7_codeOf_27 : decode cX7_codeOf 27 = .ok (.bipush 11, 2) := by decide +kernel
theorem dX7_codeOf_29 : decode cX7_codeOf 29 = .ok (.iload_n 0, 1) := by decide +kernel
theorem dX7_codeOf_30 : decode cX7_codeOf 30 = .ok (.imul, 1) := by decide +kernel
theorem dX7_codeOf_31 : decode cX7_codeOf 31 = .ok (.iload_n 1, 1) := by decide +kernel
theorem dX7_codeOf_32 : decode cX7_codeOf 32 = .ok (.iadd, 1) := by decide +kernel
theorem dX7_codeOf_33 : decode cX7_codeOf 33 = .ok (.ireturn, 1) := by decide +kernel
theorem dX7_bestOf_0 : decode cX7_bestOf 0 = .ok (.sipush 1024, 3) := by decide +kernel
theorem dX7_bestOf_3 : decode cX7_bestOf 3 = .ok (.iload_n 1, 1) := by decide +kernel
theorem dX7_bestOf_4 : decode cX7_bestOf 4 = .ok (.imul, 1) := by decide +kernel
theorem dX7_bestOf_5 : decode cX7_bestOf 5 = .ok (.istore_n 3, 1) := by decide +kernel
theorem dX7_bestOf_6 : decode cX7_bestOf 6 = .ok (.aload_n 0, 1) := by decide +kernel
theorem dX7_bestOf_7 : decode cX7_bestOf 7 = .ok (.getfield 62, 3) := by decide +kernel
theorem dX7_bestOf_10 : decode cX7_bestOf 10 = .ok (.iload_n 3, 1) := by decide +kernel
theorem dX7_bestOf_11 : decode cX7_bestOf 11 = .ok (.iload_n 2, 1) := by decide +kernel
theorem dX7_bestOf_12 : decode cX7_bestOf 12 = .ok (.iadd, 1) := by decide +kernel
theorem dX7_bestOf_13 : decode cX7_bestOf 13 = .ok (.iaload, 1) := by decide +kernel
theorem dX7_bestOf_14 : decode cX7_bestOf 14 = .ok (.istore 4, 2) := by decide +kernel
theorem dX7_bestOf_16 : decode cX7_bestOf 16 = .ok (.aload_n 0, 1) := by decide +kernel
theorem dX7_bestOf_17 : decode cX7_bestOf 17 = .ok (.bipush 120, 2) := by decide +kernel
theorem dX7_bestOf_19 : decode cX7_bestOf 19 = .ok (.putfield 177, 3) := by decide +kernel
theorem dX7_bestOf_22 : decode cX7_bestOf 22 = .ok (.aload_n 0, 1) := by decide +kernel
theorem dX7_bestOf_23 : decode cX7_bestOf 23 = .ok (.iload_n 2, 1) := by decide +kernel
theorem dX7_bestOf_24 : decode cX7_bestOf 24 = .ok (.putfield 180, 3) := by decide +kernel
theorem dX7_bestOf_27 : decode cX7_bestOf 27 = .ok (.iconst 0, 1) := by decide +kernel
theorem dX7_bestOf_28 : decode cX7_bestOf 28 = .ok (.istore 5, 2) := by decide +kernel
theorem dX7_bestOf_30 : decode cX7_bestOf 30 = .ok (.iload 5, 2) := by decide +kernel
theorem dX7_bestOf_32 : decode cX7_bestOf 32 = .ok (.aload_n 0, 1) := by decide +kernel
theorem dX7_bestOf_33 : decode cX7_bestOf 33 = .ok (.getfield 91, 3) := by decide +kernel
theorem dX7_bestOf_36 : decode cX7_bestOf 36 = .ok (.if_icmp .ge 175, 3) := by decide +kernel
theorem dX7_bestOf_39 : decode cX7_bestOf 39 = .ok (.aload_n 0, 1) := by decide +kernel
theorem dX7_bestOf_40 : decode cX7_bestOf 40 = .ok (.iload 5, 2) := by decide +kernel
theorem dX7_bestOf_42 : decode cX7_bestOf 42 = .ok (.iload_n 1, 1) := by decide +kernel
theorem dX7_bestOf_43 : decode cX7_bestOf 43 = .ok (.iload_n 2, 1) := by decide +kernel
theorem dX7_bestOf_44 : decode cX7_bestOf 44 = .ok (.invokevirtual 183, 3) := by decide +kernel
theorem dX7_bestOf_47 : decode cX7_bestOf 47 = .ok (.ifCond .eq 158, 3) := by decide +kernel
theorem dX7_bestOf_50 : decode cX7_bestOf 50 = .ok (.iload 5, 2) := by decide +kernel
theorem dX7_bestOf_52 : decode cX7_bestOf 52 = .ok (.iconst 1, 1) := by decide +kernel
theorem dX7_bestOf_53 : decode cX7_bestOf 53 = .ok (.iadd, 1) := by decide +kernel
theorem dX7_bestOf_54 : decode cX7_bestOf 54 = .ok (.istore 6, 2) := by decide +kernel
theorem dX7_bestOf_56 : decode cX7_bestOf 56 = .ok (.iload 6, 2) := by decide +kernel
theorem dX7_bestOf_58 : decode cX7_bestOf 58 = .ok (.aload_n 0, 1) := by decide +kernel
theorem dX7_bestOf_59 : decode cX7_bestOf 59 = .ok (.getfield 91, 3) := by decide +kernel
theorem dX7_bestOf_62 : decode cX7_bestOf 62 = .ok (.if_icmp .gt 143, 3) := by decide +kernel
theorem dX7_bestOf_65 : decode cX7_bestOf 65 = .ok (.iload 6, 2) := by decide +kernel
theorem dX7_bestOf_67 : decode cX7_bestOf 67 = .ok (.aload_n 0, 1) := by decide +kernel
theorem dX7_bestOf_68 : decode cX7_bestOf 68 = .ok (.getfield 91, 3) := by decide +kernel
theorem dX7_bestOf_71 : decode cX7_bestOf 71 = .ok (.if_icmp .ne 7, 3) := by decide +kernel
theorem dX7_bestOf_74 : decode cX7_bestOf 74 = .ok (.iconst 1, 1) := by decide +kernel
theorem dX7_bestOf_75 : decode cX7_bestOf 75 = .ok (.goto 4, 3) := by decide +kernel
theorem dX7_bestOf_78 : decode cX7_bestOf 78 = .ok (.iconst 0, 1) := by decide +kernel
theorem dX7_bestOf_79 : decode cX7_bestOf 79 = .ok (.istore 7, 2) := by decide +kernel
theorem dX7_bestOf_81 : decode cX7_bestOf 81 = .ok (.iload 7, 2) := by decide +kernel
theorem dX7_bestOf_83 : decode cX7_bestOf 83 = .ok (.ifCond .ne 25, 3) := by decide +kernel
theorem dX7_bestOf_86 : decode cX7_bestOf 86 = .ok (.aload_n 0, 1) := by decide +kernel
theorem dX7_bestOf_87 : decode cX7_bestOf 87 = .ok (.iload 6, 2) := by decide +kernel
theorem dX7_bestOf_89 : decode cX7_bestOf 89 = .ok (.iload_n 1, 1) := by decide +kernel
theorem dX7_bestOf_90 : decode cX7_bestOf 90 = .ok (.iload_n 2, 1) := by decide +kernel
theorem dX7_bestOf_91 : decode cX7_bestOf 91 = .ok (.invokevirtual 183, 3) := by decide +kernel
theorem dX7_bestOf_94 : decode cX7_bestOf 94 = .ok (.ifCond .eq 105, 3) := by decide +kernel
theorem dX7_bestOf_97 : decode cX7_bestOf 97 = .ok (.aload_n 0, 1) := by decide +kernel
theorem dX7_bestOf_98 : decode cX7_bestOf 98 = .ok (.iload 5, 2) := by decide +kernel
theorem dX7_bestOf_100 : decode cX7_bestOf 100 = .ok (.iload 6, 2) := by decide +kernel
theorem dX7_bestOf_102 : decode cX7_bestOf 102 = .ok (.invokevirtual 187, 3) := by decide +kernel
theorem dX7_bestOf_105 : decode cX7_bestOf 105 = .ok (.ifCond .eq 94, 3) := by decide +kernel
theorem dX7_bestOf_108 : decode cX7_bestOf 108 = .ok (.iload_n 2, 1) := by decide +kernel
theorem dX7_bestOf_109 : decode cX7_bestOf 109 = .ok (.iconst 1, 1) := by decide +kernel
theorem dX7_bestOf_110 : decode cX7_bestOf 110 = .ok (.iload 5, 2) := by decide +kernel
theorem dX7_bestOf_112 : decode cX7_bestOf 112 = .ok (.ishl, 1) := by decide +kernel
theorem dX7_bestOf_113 : decode cX7_bestOf 113 = .ok (.ior, 1) := by decide +kernel
theorem dX7_bestOf_114 : decode cX7_bestOf 114 = .ok (.iload 7, 2) := by decide +kernel
theorem dX7_bestOf_116 : decode cX7_bestOf 116 = .ok (.ifCond .eq 7, 3) := by decide +kernel
theorem dX7_bestOf_119 : decode cX7_bestOf 119 = .ok (.iconst 0, 1) := by decide +kernel
theorem dX7_bestOf_120 : decode cX7_bestOf 120 = .ok (.goto 7, 3) := by decide +kernel
theorem dX7_bestOf_123 : decode cX7_bestOf 123 = .ok (.iconst 1, 1) := by decide +kernel
theorem dX7_bestOf_124 : decode cX7_bestOf 124 = .ok (.iload 6, 2) := by decide +kernel
theorem dX7_bestOf_126 : decode cX7_bestOf 126 = .ok (.ishl, 1) := by decide +kernel
theorem dX7_bestOf_127 : decode cX7_bestOf 127 = .ok (.ior, 1) := by decide +kernel
theorem dX7_bestOf_128 : decode cX7_bestOf 128 = .ok (.istore 8, 2) := by decide +kernel
theorem dX7_bestOf_130 : decode cX7_bestOf 130 = .ok (.aload_n 0, 1) := by decide +kernel
theorem dX7_bestOf_131 : decode cX7_bestOf 131 = .ok (.getfield 62, 3) := by decide +kernel
theorem dX7_bestOf_134 : decode cX7_bestOf 134 = .ok (.iload_n 3, 1) := by decide +kernel
theorem dX7_bestOf_135 : decode cX7_bestOf 135 = .ok (.iload 8, 2) := by decide +kernel
theorem dX7_bestOf_137 : decode cX7_bestOf 137 = .ok (.iadd, 1) := by decide +kernel
theorem dX7_bestOf_138 : decode cX7_bestOf 138 = .ok (.iaload, 1) := by decide +kernel
theorem dX7_bestOf_139 : decode cX7_bestOf 139 = .ok (.istore 9, 2) := by decide +kernel
theorem dX7_bestOf_141 : decode cX7_bestOf 141 = .ok (.iload 5, 2) := by decide +kernel
theorem dX7_bestOf_143 : decode cX7_bestOf 143 = .ok (.iload 7, 2) := by decide +kernel
theorem dX7_bestOf_145 : decode cX7_bestOf 145 = .ok (.ifCond .eq 8, 3) := by decide +kernel
theorem dX7_bestOf_148 : decode cX7_bestOf 148 = .ok (.bipush (-3), 2) := by decide +kernel
theorem dX7_bestOf_150 : decode cX7_bestOf 150 = .ok (.goto 5, 3) := by decide +kernel
theorem dX7_bestOf_153 : decode cX7_bestOf 153 = .ok (.iload 6, 2) := by decide +kernel
theorem dX7_bestOf_155 : decode cX7_bestOf 155 = .ok (.invokestatic 190, 3) := by decide +kernel
theorem dX7_bestOf_158 : decode cX7_bestOf 158 = .ok (.istore 10, 2) := by decide +kernel
theorem dX7_bestOf_160 : decode cX7_bestOf 160 = .ok (.iload 9, 2) := by decide +kernel
theorem dX7_bestOf_162 : decode cX7_bestOf 162 = .ok (.iload 4, 2) := by decide +kernel
theorem dX7_bestOf_164 : decode cX7_bestOf 164 = .ok (.if_icmp .lt 19, 3) := by decide +kernel
theorem dX7_bestOf_167 : decode cX7_bestOf 167 = .ok (.iload 9, 2) := by decide +kernel
theorem dX7_bestOf_169 : decode cX7_bestOf 169 = .ok (.iload 4, 2) := by decide +kernel
theorem dX7_bestOf_171 : decode cX7_bestOf 171 = .ok (.if_icmp .ne 28, 3) := by decide +kernel
theorem dX7_bestOf_174 : decode cX7_bestOf 174 = .ok (.iload 10, 2) := by decide +kernel
theorem dX7_bestOf_176 : decode cX7_bestOf 176 = .ok (.aload_n 0, 1) := by decide +kernel
theorem dX7_bestOf_177 : decode cX7_bestOf 177 = .ok (.getfield 177, 3) := by decide +kernel
theorem dX7_bestOf_180 : decode cX7_bestOf 180 = .ok (.if_icmp .ge 19, 3) := by decide +kernel
theorem dX7_bestOf_183 : decode cX7_bestOf 183 = .ok (.iload 9, 2) := by decide +kernel
theorem dX7_bestOf_185 : decode cX7_bestOf 185 = .ok (.istore 4, 2) := by decide +kernel
theorem dX7_bestOf_187 : decode cX7_bestOf 187 = .ok (.aload_n 0, 1) := by decide +kernel
theorem dX7_bestOf_188 : decode cX7_bestOf 188 = .ok (.iload 10, 2) := by decide +kernel
theorem dX7_bestOf_190 : decode cX7_bestOf 190 = .ok (.putfield 177, 3) := by decide +kernel
theorem dX7_bestOf_193 : decode cX7_bestOf 193 = .ok (.aload_n 0, 1) := by decide +kernel
theorem dX7_bestOf_194 : decode cX7_bestOf 194 = .ok (.iload 8, 2) := by decide +kernel
theorem dX7_bestOf_196 : decode cX7_bestOf 196 = .ok (.putfield 180, 3) := by decide +kernel
theorem dX7_bestOf_199 : decode cX7_bestOf 199 = .ok (.iinc 6 1, 3) := by decide +kernel
theorem dX7_bestOf_202 : decode cX7_bestOf 202 = .ok (.goto (-146), 3) := by decide +kernel
theorem dX7_bestOf_205 : decode cX7_bestOf 205 = .ok (.iinc 5 1, 3) := by decide +kernel
theorem dX7_bestOf_208 : decode cX7_bestOf 208 = .ok (.goto (-178), 3) := by decide +kernel
theorem dX7_bestOf_211 : decode cX7_bestOf 211 = .ok (.iload 4, 2) := by decide +kernel
theorem dX7_bestOf_213 : decode cX7_bestOf 213 = .ok (.ireturn, 1) := by decide +kernel
theorem dX7_layKept_0 : decode cX7_layKept 0 = .ok (.aload_n 0, 1) := by decide +kernel
theorem dX7_layKept_1 : decode cX7_layKept 1 = .ok (.getfield 98, 3) := by decide +kernel
theorem dX7_layKept_4 : decode cX7_layKept 4 = .ok (.ifCond .eq 4, 3) := by decide +kernel
theorem dX7_layKept_7 : decode cX7_layKept 7 = .ok (.return_, 1) := by decide +kernel
theorem dX7_layKept_8 : decode cX7_layKept 8 = .ok (.aload_n 0, 1) := by decide +kernel
theorem dX7_layKept_9 : decode cX7_layKept 9 = .ok (.iconst 1, 1) := by decide +kernel
theorem dX7_layKept_10 : decode cX7_layKept 10 = .ok (.putfield 98, 3) := by decide +kernel
theorem dX7_layKept_13 : decode cX7_layKept 13 = .ok (.aload_n 0, 1) := by decide +kernel
theorem dX7_layKept_14 : decode cX7_layKept 14 = .ok (.invokevirtual 115, 3) := by decide +kernel
theorem dX7_layKept_17 : decode cX7_layKept 17 = .ok (.aload_n 0, 1) := by decide +kernel
theorem dX7_layKept_18 : decode cX7_layKept 18 = .ok (.invokevirtual 161, 3) := by decide +kernel
theorem dX7_layKept_21 : decode cX7_layKept 21 = .ok (.istore_n 1, 1) := by decide +kernel
theorem dX7_layKept_22 : decode cX7_layKept 22 = .ok (.iconst 0, 1) := by decide +kernel
theorem dX7_layKept_23 : decode cX7_layKept 23 = .ok (.istore_n 2, 1) := by decide +kernel
theorem dX7_layKept_24 : decode cX7_layKept 24 = .ok (.iload_n 2, 1) := by decide +kernel
theorem dX7_layKept_25 : decode cX7_layKept 25 = .ok (.iload_n 1, 1) := by decide +kernel
theorem dX7_layKept_26 : decode cX7_layKept 26 = .ok (.if_icmp .gt 30, 3) := by decide +kernel
theorem dX7_layKept_29 : decode cX7_layKept 29 = .ok (.aload_n 0, 1) := by decide +kernel
theorem dX7_layKept_30 : decode cX7_layKept 30 = .ok (.getfield 62, 3) := by decide +kernel
theorem dX7_layKept_33 : decode cX7_layKept 33 = .ok (.ldc 193, 2) := by decide +kernel
theorem dX7_layKept_35 : decode cX7_layKept 35 = .ok (.iload_n 2, 1) := by decide +kernel
theorem dX7_layKept_36 : decode cX7_layKept 36 = .ok (.iadd, 1) := by decide +kernel
theorem dX7_layKept_37 : decode cX7_layKept 37 = .ok (.iload_n 2, 1) := by decide +kernel
theorem dX7_layKept_38 : decode cX7_layKept 38 = .ok (.iload_n 1, 1) := by decide +kernel
theorem dX7_layKept_39 : decode cX7_layKept 39 = .ok (.if_icmp .ne 8, 3) := by decide +kernel
theorem dX7_layKept_42 : decode cX7_layKept 42 = .ok (.bipush 60, 2) := by decide +kernel
theorem dX7_layKept_44 : decode cX7_layKept 44 = .ok (.goto 5, 3) := by decide +kernel
theorem dX7_layKept_47 : decode cX7_layKept 47 = .ok (.bipush 99, 2) := by decide +kernel
theorem dX7_layKept_49 : decode cX7_layKept 49 = .ok (.iastore, 1) := by decide +kernel
theorem dX7_layKept_50 : decode cX7_layKept 50 = .ok (.iinc 2 1, 3) := by decide +kernel
theorem dX7_layKept_53 : decode cX7_layKept 53 = .ok (.goto (-29), 3) := by decide +kernel
theorem dX7_layKept_56 : decode cX7_layKept 56 = .ok (.bipush 60, 2) := by decide +kernel
theorem dX7_layKept_58 : decode cX7_layKept 58 = .ok (.istore_n 2, 1) := by decide +kernel
theorem dX7_layKept_59 : decode cX7_layKept 59 = .ok (.iload_n 2, 1) := by decide +kernel
theorem dX7_layKept_60 : decode cX7_layKept 60 = .ok (.ifCond .le 53, 3) := by decide +kernel
theorem dX7_layKept_63 : decode cX7_layKept 63 = .ok (.iconst 0, 1) := by decide +kernel
theorem dX7_layKept_64 : decode cX7_layKept 64 = .ok (.istore_n 3, 1) := by decide +kernel
theorem dX7_layKept_65 : decode cX7_layKept 65 = .ok (.iload_n 3, 1) := by decide +kernel
theorem dX7_layKept_66 : decode cX7_layKept 66 = .ok (.iload_n 1, 1) := by decide +kernel
theorem dX7_layKept_67 : decode cX7_layKept 67 = .ok (.if_icmp .gt 40, 3) := by decide +kernel
theorem dX7_layKept_70 : decode cX7_layKept 70 = .ok (.aload_n 0, 1) := by decide +kernel
theorem dX7_layKept_71 : decode cX7_layKept 71 = .ok (.getfield 62, 3) := by decide +kernel
theorem dX7_layKept_74 : decode cX7_layKept 74 = .ok (.sipush 1024, 3) := by decide +kernel
theorem dX7_layKept_77 : decode cX7_layKept 77 = .ok (.iload_n 2, 1) := by decide +kernel
theorem dX7_layKept_78 : decode cX7_layKept 78 = .ok (.iconst 1, 1) := by decide +kernel
theorem dX7_layKept_79 : decode cX7_layKept 79 = .ok (.isub, 1) := by decide +kernel
theorem dX7_layKept_80 : decode cX7_layKept 80 = .ok (.imul, 1) := by decide +kernel
theorem dX7_layKept_81 : decode cX7_layKept 81 = .ok (.iload_n 3, 1) := by decide +kernel
theorem dX7_layKept_82 : decode cX7_layKept 82 = .ok (.iadd, 1) := by decide +kernel
theorem dX7_layKept_83 : decode cX7_layKept 83 = .ok (.iload_n 3, 1) := by decide +kernel
theorem dX7_layKept_84 : decode cX7_layKept 84 = .ok (.iload_n 1, 1) := by decide +kernel
theorem dX7_layKept_85 : decode cX7_layKept 85 = .ok (.if_icmp .ne 9, 3) := by decide +kernel
theorem dX7_layKept_88 : decode cX7_layKept 88 = .ok (.iload_n 2, 1) := by decide +kernel
theorem dX7_layKept_89 : decode cX7_layKept 89 = .ok (.iconst 1, 1) := by decide +kernel
theorem dX7_layKept_90 : decode cX7_layKept 90 = .ok (.isub, 1) := by decide +kernel
theorem dX7_layKept_91 : decode cX7_layKept 91 = .ok (.goto 9, 3) := by decide +kernel
theorem dX7_layKept_94 : decode cX7_layKept 94 = .ok (.aload_n 0, 1) := by decide +kernel
theorem dX7_layKept_95 : decode cX7_layKept 95 = .ok (.iload_n 2, 1) := by decide +kernel
theorem dX7_layKept_96 : decode cX7_layKept 96 = .ok (.iload_n 3, 1) := by decide +kernel
theorem dX7_layKept_97 : decode cX7_layKept 97 = .ok (.invokevirtual 194, 3) := by decide +kernel
theorem dX7_layKept_100 : decode cX7_layKept 100 = .ok (.iastore, 1) := by decide +kernel
theorem dX7_layKept_101 : decode cX7_layKept 101 = .ok (.iinc 3 1, 3) := by decide +kernel
theorem dX7_layKept_104 : decode cX7_layKept 104 = .ok (.goto (-39), 3) := by decide +kernel
theorem dX7_layKept_107 : decode cX7_layKept 107 = .ok (.iinc 2 (-1), 3) := by decide +kernel
theorem dX7_layKept_110 : decode cX7_layKept 110 = .ok (.goto (-51), 3) := by decide +kernel
theorem dX7_layKept_113 : decode cX7_layKept 113 = .ok (.iconst 0, 1) := by decide +kernel
theorem dX7_layKept_114 : decode cX7_layKept 114 = .ok (.istore_n 2, 1) := by decide +kernel
theorem dX7_layKept_115 : decode cX7_layKept 115 = .ok (.iload_n 2, 1) := by decide +kernel
theorem dX7_layKept_116 : decode cX7_layKept 116 = .ok (.bipush 10, 2) := by decide +kernel
theorem dX7_layKept_118 : decode cX7_layKept 118 = .ok (.if_icmp .ge 17, 3) := by decide +kernel
theorem dX7_layKept_121 : decode cX7_layKept 121 = .ok (.aload_n 0, 1) := by decide +kernel
theorem dX7_layKept_122 : decode cX7_layKept 122 = .ok (.getfield 68, 3) := by decide +kernel
theorem dX7_layKept_125 : decode cX7_layKept 125 = .ok (.iload_n 2, 1) := by decide +kernel
theorem dX7_layKept_126 : decode cX7_layKept 126 = .ok (.bipush (-3), 2) := by decide +kernel
theorem dX7_layKept_128 : decode cX7_layKept 128 = .ok (.iastore, 1) := by decide +kernel
theorem dX7_layKept_129 : decode cX7_layKept 129 = .ok (.iinc 2 1, 3) := by decide +kernel
theorem dX7_layKept_132 : decode cX7_layKept 132 = .ok (.goto (-17), 3) := by decide +kernel
theorem dX7_layKept_135 : decode cX7_layKept 135 = .ok (.aload_n 0, 1) := by decide +kernel
theorem dX7_layKept_136 : decode cX7_layKept 136 = .ok (.aload_n 0, 1) := by decide +kernel
theorem dX7_layKept_137 : decode cX7_layKept 137 = .ok (.getfield 62, 3) := by decide +kernel
theorem dX7_layKept_140 : decode cX7_layKept 140 = .ok (.iconst 0, 1) := by decide +kernel
theorem dX7_layKept_141 : decode cX7_layKept 141 = .ok (.iaload, 1) := by decide +kernel
theorem dX7_layKept_142 : decode cX7_layKept 142 = .ok (.bipush 99, 2) := by decide +kernel
theorem dX7_layKept_144 : decode cX7_layKept 144 = .ok (.if_icmp .ne 8, 3) := by decide +kernel
theorem dX7_layKept_147 : decode cX7_layKept 147 = .ok (.bipush (-3), 2) := by decide +kernel
theorem dX7_layKept_149 : decode cX7_layKept 149 = .ok (.goto 9, 3) := by decide +kernel
theorem dX7_layKept_152 : decode cX7_layKept 152 = .ok (.aload_n 0, 1) := by decide +kernel
theorem dX7_layKept_153 : decode cX7_layKept 153 = .ok (.getfield 62, 3) := by decide +kernel
theorem dX7_layKept_156 : decode cX7_layKept 156 = .ok (.iconst 0, 1) := by decide +kernel
theorem dX7_layKept_157 : decode cX7_layKept 157 = .ok (.iaload, 1) := by decide +kernel
theorem dX7_layKept_158 : decode cX7_layKept 158 = .ok (.putfield 197, 3) := by decide +kernel
theorem dX7_layKept_161 : decode cX7_layKept 161 = .ok (.iconst 0, 1) := by decide +kernel
theorem dX7_layKept_162 : decode cX7_layKept 162 = .ok (.istore_n 2, 1) := by decide +kernel
theorem dX7_layKept_163 : decode cX7_layKept 163 = .ok (.iconst 1, 1) := by decide +kernel
theorem dX7_layKept_164 : decode cX7_layKept 164 = .ok (.istore_n 3, 1) := by decide +kernel
theorem dX7_layKept_165 : decode cX7_layKept 165 = .ok (.iload_n 3, 1) := by decide +kernel
theorem dX7_layKept_166 : decode cX7_layKept 166 = .ok (.aload_n 0, 1) := by decide +kernel
theorem dX7_layKept_167 : decode cX7_layKept 167 = .ok (.getfield 197, 3) := by decide +kernel
theorem dX7_layKept_170 : decode cX7_layKept 170 = .ok (.if_icmp .gt 98, 3) := by decide +kernel
theorem dX7_layKept_173 : decode cX7_layKept 173 = .ok (.aload_n 0, 1) := by decide +kernel
theorem dX7_layKept_174 : decode cX7_layKept 174 = .ok (.iload_n 3, 1) := by decide +kernel
theorem dX7_layKept_175 : decode cX7_layKept 175 = .ok (.iload_n 2, 1) := by decide +kernel
theorem dX7_layKept_176 : decode cX7_layKept 176 = .ok (.invokevirtual 194, 3) := by decide +kernel
theorem dX7_layKept_179 : decode cX7_layKept 179 = .ok (.istore 4, 2) := by decide +kernel
theorem dX7_layKept_181 : decode cX7_layKept 181 = .ok (.aload_n 0, 1) := by decide +kernel
theorem dX7_layKept_182 : decode cX7_layKept 182 = .ok (.getfield 65, 3) := by decide +kernel
theorem dX7_layKept_185 : decode cX7_layKept 185 = .ok (.iload_n 3, 1) := by decide +kernel
theorem dX7_layKept_186 : decode cX7_layKept 186 = .ok (.aload_n 0, 1) := by decide +kernel
theorem dX7_layKept_187 : decode cX7_layKept 187 = .ok (.getfield 177, 3) := by decide +kernel
theorem dX7_layKept_190 : decode cX7_layKept 190 = .ok (.iastore, 1) := by decide +kernel
theorem dX7_layKept_191 : decode cX7_layKept 191 = .ok (.iconst 0, 1) := by decide +kernel
theorem dX7_layKept_192 : decode cX7_layKept 192 = .ok (.istore 5, 2) := by decide +kernel
theorem dX7_layKept_194 : decode cX7_layKept 194 = .ok (.iload 5, 2) := by decide +kernel
theorem dX7_layKept_196 : decode cX7_layKept 196 = .ok (.aload_n 0, 1) := by decide +kernel
theorem dX7_layKept_197 : decode cX7_layKept 197 = .ok (.getfield 91, 3) := by decide +kernel
theorem dX7_layKept_200 : decode cX7_layKept 200 = .ok (.if_icmp .ge 57, 3) := by decide +kernel
theorem dX7_layKept_203 : decode cX7_layKept 203 = .ok (.aload_n 0, 1) := by decide +kernel
theorem dX7_layKept_204 : decode cX7_layKept 204 = .ok (.getfield 68, 3) := by decide +kernel
theorem dX7_layKept_207 : decode cX7_layKept 207 = .ok (.iload 5, 2) := by decide +kernel
theorem dX7_layKept_209 : decode cX7_layKept 209 = .ok (.aload_n 0, 1) := by decide +kernel
theorem dX7_layKept_210 : decode cX7_layKept 210 = .ok (.getfield 180, 3) := by decide +kernel
theorem dX7_layKept_213 : decode cX7_layKept 213 = .ok (.iload_n 2, 1) := by decide +kernel
theorem dX7_layKept_214 : decode cX7_layKept 214 = .ok (.iconst (-1), 1) := by decide +kernel
theorem dX7_layKept_215 : decode cX7_layKept 215 = .ok (.ixor, 1) := by decide +kernel
theorem dX7_layKept_216 : decode cX7_layKept 216 = .ok (.iand, 1) := by decide +kernel
theorem dX7_layKept_217 : decode cX7_layKept 217 = .ok (.iload 5, 2) := by decide +kernel
theorem dX7_layKept_219 : decode cX7_layKept 219 = .ok (.ishr, 1) := by decide +kernel
theorem dX7_layKept_220 : decode cX7_layKept 220 = .ok (.ifCond .eq 19, 3) := by decide +kernel
theorem dX7_layKept_223 : decode cX7_layKept 223 = .ok (.aload_n 0, 1) := by decide +kernel
theorem dX7_layKept_224 : decode cX7_layKept 224 = .ok (.getfield 180, 3) := by decide +kernel
theorem dX7_layKept_227 : decode cX7_layKept 227 = .ok (.iload_n 2, 1) := by decide +kernel
theorem dX7_layKept_228 : decode cX7_layKept 228 = .ok (.iconst (-1), 1) := by decide +kernel
theorem dX7_layKept_229 : decode cX7_layKept 229 = .ok (.ixor, 1) := by decide +kernel
theorem dX7_layKept_230 : decode cX7_layKept 230 = .ok (.iand, 1) := by decide +kernel
theorem dX7_layKept_231 : decode cX7_layKept 231 = .ok (.iload 5, 2) := by decide +kernel
theorem dX7_layKept_233 : decode cX7_layKept 233 = .ok (.ishr, 1) := by decide +kernel
theorem dX7_layKept_234 : decode cX7_layKept 234 = .ok (.iconst 1, 1) := by decide +kernel
theorem dX7_layKept_235 : decode cX7_layKept 235 = .ok (.iand, 1) := by decide +kernel
theorem dX7_layKept_236 : decode cX7_layKept 236 = .ok (.ifCond .ne 13, 3) := by decide +kernel
theorem dX7_layKept_239 : decode cX7_layKept 239 = .ok (.aload_n 0, 1) := by decide +kernel
theorem dX7_layKept_240 : decode cX7_layKept 240 = .ok (.getfield 68, 3) := by decide +kernel
theorem dX7_layKept_243 : decode cX7_layKept 243 = .ok (.iload 5, 2) := by decide +kernel
theorem dX7_layKept_245 : decode cX7_layKept 245 = .ok (.iaload, 1) := by decide +kernel
theorem dX7_layKept_246 : decode cX7_layKept 246 = .ok (.goto 4, 3) := by decide +kernel
theorem dX7_layKept_249 : decode cX7_layKept 249 = .ok (.iload_n 3, 1) := by decide +kernel
theorem dX7_layKept_250 : decode cX7_layKept 250 = .ok (.iastore, 1) := by decide +kernel
theorem dX7_layKept_251 : decode cX7_layKept 251 = .ok (.iinc 5 1, 3) := by decide +kernel
theorem dX7_layKept_254 : decode cX7_layKept 254 = .ok (.goto (-60), 3) := by decide +kernel
theorem dX7_layKept_257 : decode cX7_layKept 257 = .ok (.aload_n 0, 1) := by decide +kernel
theorem dX7_layKept_258 : decode cX7_layKept 258 = .ok (.getfield 180, 3) := by decide +kernel
theorem dX7_layKept_261 : decode cX7_layKept 261 = .ok (.istore_n 2, 1) := by decide +kernel
theorem dX7_layKept_262 : decode cX7_layKept 262 = .ok (.iinc 3 1, 3) := by decide +kernel
theorem dX7_layKept_265 : decode cX7_layKept 265 = .ok (.goto (-100), 3) := by decide +kernel
theorem dX7_layKept_268 : decode cX7_layKept 268 = .ok (.return_, 1) := by decide +kernel
theorem dX7_kept_0 : decode cX7_kept 0 = .ok (.aload_n 0, 1) := by decide +kernel
theorem dX7_kept_1 : decode cX7_kept 1 = .ok (.invokevirtual 171, 3) := by decide +kernel
theorem dX7_kept_4 : decode cX7_kept 4 = .ok (.aload_n 0, 1) := by decide +kernel
theorem dX7_kept_5 : decode cX7_kept 5 = .ok (.getfield 197, 3) := by decide +kernel
theorem dX7_kept_8 : decode cX7_kept 8 = .ok (.ireturn, 1) := by decide +kernel
theorem dX7_code_0 : decode cX7_code 0 = .ok (.iload_n 1, 1) := by decide +kernel
theorem dX7_code_1 : decode cX7_code 1 = .ok (.iconst 1, 1) := by decide +kernel
theorem dX7_code_2 : decode cX7_code 2 = .ok (.if_icmp .ge 5, 3) := by decide +kernel
theorem dX7_code_5 : decode cX7_code 5 = .ok (.iconst (-1), 1) := by decide +kernel
theorem dX7_code_6 : decode cX7_code 6 = .ok (.ireturn, 1) := by decide +kernel
theorem dX7_code_7 : decode cX7_code 7 = .ok (.aload_n 0, 1) := by decide +kernel
theorem dX7_code_8 : decode cX7_code 8 = .ok (.invokevirtual 171, 3) := by decide +kernel
theorem dX7_code_11 : decode cX7_code 11 = .ok (.aload_n 0, 1) := by decide +kernel
theorem dX7_code_12 : decode cX7_code 12 = .ok (.getfield 197, 3) := by decide +kernel
theorem dX7_code_15 : decode cX7_code 15 = .ok (.bipush (-3), 2) := by decide +kernel
theorem dX7_code_17 : decode cX7_code 17 = .ok (.if_icmp .eq 11, 3) := by decide +kernel
theorem dX7_code_20 : decode cX7_code 20 = .ok (.iload_n 1, 1) := by decide +kernel
theorem dX7_code_21 : decode cX7_code 21 = .ok (.aload_n 0, 1) := by decide +kernel
theorem dX7_code_22 : decode cX7_code 22 = .ok (.getfield 197, 3) := by decide +kernel
theorem dX7_code_25 : decode cX7_code 25 = .ok (.if_icmp .le 8, 3) := by decide +kernel
theorem dX7_code_28 : decode cX7_code 28 = .ok (.bipush (-3), 2) := by decide +kernel
theorem dX7_code_30 : decode cX7_code 30 = .ok (.goto 9, 3) := by decide +kernel
theorem dX7_code_33 : decode cX7_code 33 = .ok (.aload_n 0, 1) := by decide +kernel
theorem dX7_code_34 : decode cX7_code 34 = .ok (.getfield 65, 3) := by decide +kernel
theorem dX7_code_37 : decode cX7_code 37 = .ok (.iload_n 1, 1) := by decide +kernel
theorem dX7_code_38 : decode cX7_code 38 = .ok (.iaload, 1) := by decide +kernel
theorem dX7_code_39 : decode cX7_code 39 = .ok (.ireturn, 1) := by decide +kernel
theorem dX7_check_0 : decode cX7_check 0 = .ok (.aload_n 0, 1) := by decide +kernel
theorem dX7_check_1 : decode cX7_check 1 = .ok (.invokevirtual 115, 3) := by decide +kernel
theorem dX7_check_4 : decode cX7_check 4 = .ok (.iconst 1, 1) := by decide +kernel
theorem dX7_check_5 : decode cX7_check 5 = .ok (.istore_n 3, 1) := by decide +kernel
theorem dX7_check_6 : decode cX7_check 6 = .ok (.iconst 1, 1) := by decide +kernel
theorem dX7_check_7 : decode cX7_check 7 = .ok (.istore 4, 2) := by decide +kernel
theorem dX7_check_9 : decode cX7_check 9 = .ok (.iconst 0, 1) := by decide +kernel
theorem dX7_check_10 : decode cX7_check 10 = .ok (.istore 5, 2) := by decide +kernel
theorem dX7_check_12 : decode cX7_check 12 = .ok (.iload 5, 2) := by decide +kernel
theorem dX7_check_14 : decode cX7_check 14 = .ok (.aload_n 0, 1) := by decide +kernel
theorem dX7_check_15 : decode cX7_check 15 = .ok (.getfield 91, 3) := by decide +kernel
theorem dX7_check_18 : decode cX7_check 18 = .ok (.if_icmp .ge 231, 3) := by decide +kernel
theorem dX7_check_21 : decode cX7_check 21 = .ok (.lload_n 1, 1) := by decide +kernel
theorem dX7_check_22 : decode cX7_check 22 = .ok (.bipush 6, 2) := by decide +kernel
theorem dX7_check_24 : decode cX7_check 24 = .ok (.iload 5, 2) := by decide +kernel
theorem dX7_check_26 : decode cX7_check 26 = .ok (.imul, 1) := by decide +kernel
theorem dX7_check_27 : decode cX7_check 27 = .ok (.lshr, 1) := by decide +kernel
theorem dX7_check_28 : decode cX7_check 28 = .ok (.ldc2_w 200, 3) := by decide +kernel
theorem dX7_check_31 : decode cX7_check 31 = .ok (.land, 1) := by decide +kernel
theorem dX7_check_32 : decode cX7_check 32 = .ok (.l2i, 1) := by decide +kernel
theorem dX7_check_33 : decode cX7_check 33 = .ok (.istore 6, 2) := by decide +kernel
theorem dX7_check_35 : decode cX7_check 35 = .ok (.iconst 0, 1) := by decide +kernel
theorem dX7_check_36 : decode cX7_check 36 = .ok (.istore 7, 2) := by decide +kernel
theorem dX7_check_38 : decode cX7_check 38 = .ok (.iload_n 3, 1) := by decide +kernel
theorem dX7_check_39 : decode cX7_check 39 = .ok (.ifCond .eq 12, 3) := by decide +kernel
theorem dX7_check_42 : decode cX7_check 42 = .ok (.iload 6, 2) := by decide +kernel
theorem dX7_check_44 : decode cX7_check 44 = .ok (.ifCond .le 7, 3) := by decide +kernel
theorem dX7_check_47 : decode cX7_check 47 = .ok (.iconst 1, 1) := by decide +kernel
theorem dX7_check_48 : decode cX7_check 48 = .ok (.goto 4, 3) := by decide +kernel
theorem dX7_check_51 : decode cX7_check 51 = .ok (.iconst 0, 1) := by decide +kernel
theorem dX7_check_52 : decode cX7_check 52 = .ok (.istore_n 3, 1) := by decide +kernel
theorem dX7_check_53 : decode cX7_check 53 = .ok (.iload 4, 2) := by decide +kernel
theorem dX7_check_55 : decode cX7_check 55 = .ok (.ifCond .eq 55, 3) := by decide +kernel
theorem dX7_check_58 : decode cX7_check 58 = .ok (.aload_n 0, 1) := by decide +kernel
theorem dX7_check_59 : decode cX7_check 59 = .ok (.getfield 22, 3) := by decide +kernel
theorem dX7_check_62 : decode cX7_check 62 = .ok (.iload 5, 2) := by decide +kernel
theorem dX7_check_64 : decode cX7_check 64 = .ok (.iaload, 1) := by decide +kernel
theorem dX7_check_65 : decode cX7_check 65 = .ok (.bipush (-3), 2) := by decide +kernel
theorem dX7_check_67 : decode cX7_check 67 = .ok (.if_icmp .eq 15, 3) := by decide +kernel
theorem dX7_check_70 : decode cX7_check 70 = .ok (.iload 6, 2) := by decide +kernel
theorem dX7_check_72 : decode cX7_check 72 = .ok (.aload_n 0, 1) := by decide +kernel
theorem dX7_check_73 : decode cX7_check 73 = .ok (.getfield 22, 3) := by decide +kernel
theorem dX7_check_76 : decode cX7_check 76 = .ok (.iload 5, 2) := by decide +kernel
theorem dX7_check_78 : decode cX7_check 78 = .ok (.iaload, 1) := by decide +kernel
theorem dX7_check_79 : decode cX7_check 79 = .ok (.if_icmp .lt 31, 3) := by decide +kernel
theorem dX7_check_82 : decode cX7_check 82 = .ok (.aload_n 0, 1) := by decide +kernel
theorem dX7_check_83 : decode cX7_check 83 = .ok (.getfield 25, 3) := by decide +kernel
theorem dX7_check_86 : decode cX7_check 86 = .ok (.iload 5, 2) := by decide +kernel
theorem dX7_check_88 : decode cX7_check 88 = .ok (.iaload, 1) := by decide +kernel
theorem dX7_check_89 : decode cX7_check 89 = .ok (.bipush (-3), 2) := by decide +kernel
theorem dX7_check_91 : decode cX7_check 91 = .ok (.if_icmp .eq 15, 3) := by decide +kernel
theorem dX7_check_94 : decode cX7_check 94 = .ok (.iload 6, 2) := by decide +kernel
theorem dX7_check_96 : decode cX7_check 96 = .ok (.aload_n 0, 1) := by decide +kernel
theorem dX7_check_97 : decode cX7_check 97 = .ok (.getfield 25, 3) := by decide +kernel
theorem dX7_check_100 : decode cX7_check 100 = .ok (.iload 5, 2) := by decide +kernel
theorem dX7_check_102 : decode cX7_check 102 = .ok (.iaload, 1) := by decide +kernel
theorem dX7_check_103 : decode cX7_check 103 = .ok (.if_icmp .gt 7, 3) := by decide +kernel
theorem dX7_check_106 : decode cX7_check 106 = .ok (.iconst 1, 1) := by decide +kernel
theorem dX7_check_107 : decode cX7_check 107 = .ok (.goto 4, 3) := by decide +kernel
theorem dX7_check_110 : decode cX7_check 110 = .ok (.iconst 0, 1) := by decide +kernel
theorem dX7_check_111 : decode cX7_check 111 = .ok (.istore 4, 2) := by decide +kernel
theorem dX7_check_113 : decode cX7_check 113 = .ok (.iconst 0, 1) := by decide +kernel
theorem dX7_check_114 : decode cX7_check 114 = .ok (.istore 8, 2) := by decide +kernel
theorem dX7_check_116 : decode cX7_check 116 = .ok (.iload 8, 2) := by decide +kernel
theorem dX7_check_118 : decode cX7_check 118 = .ok (.aload_n 0, 1) := by decide +kernel
theorem dX7_check_119 : decode cX7_check 119 = .ok (.getfield 91, 3) := by decide +kernel
theorem dX7_check_122 : decode cX7_check 122 = .ok (.if_icmp .ge 105, 3) := by decide +kernel
theorem dX7_check_125 : decode cX7_check 125 = .ok (.lload_n 1, 1) := by decide +kernel
theorem dX7_check_126 : decode cX7_check 126 = .ok (.bipush 6, 2) := by decide +kernel
theorem dX7_check_128 : decode cX7_check 128 = .ok (.iload 8, 2) := by decide +kernel
theorem dX7_check_130 : decode cX7_check 130 = .ok (.imul, 1) := by decide +kernel
theorem dX7_check_131 : decode cX7_check 131 = .ok (.lshr, 1) := by decide +kernel
theorem dX7_check_132 : decode cX7_check 132 = .ok (.ldc2_w 200, 3) := by decide +kernel
theorem dX7_check_135 : decode cX7_check 135 = .ok (.land, 1) := by decide +kernel
theorem dX7_check_136 : decode cX7_check 136 = .ok (.l2i, 1) := by decide +kernel
theorem dX7_check_137 : decode cX7_check 137 = .ok (.istore 9, 2) := by decide +kernel
theorem dX7_check_139 : decode cX7_check 139 = .ok (.iload 7, 2) := by decide +kernel
theorem dX7_check_141 : decode cX7_check 141 = .ok (.iload 9, 2) := by decide +kernel
theorem dX7_check_143 : decode cX7_check 143 = .ok (.iload 6, 2) := by decide +kernel
theorem dX7_check_145 : decode cX7_check 145 = .ok (.if_icmp .ne 7, 3) := by decide +kernel
theorem dX7_check_148 : decode cX7_check 148 = .ok (.iconst 1, 1) := by decide +kernel
theorem dX7_check_149 : decode cX7_check 149 = .ok (.goto 4, 3) := by decide +kernel
theorem dX7_check_152 : decode cX7_check 152 = .ok (.iconst 0, 1) := by decide +kernel
theorem dX7_check_153 : decode cX7_check 153 = .ok (.iadd, 1) := by decide +kernel
theorem dX7_check_154 : decode cX7_check 154 = .ok (.istore 7, 2) := by decide +kernel
theorem dX7_check_156 : decode cX7_check 156 = .ok (.iload_n 3, 1) := by decide +kernel
theorem dX7_check_157 : decode cX7_check 157 = .ok (.ifCond .eq 25, 3) := by decide +kernel
theorem dX7_check_160 : decode cX7_check 160 = .ok (.aload_n 0, 1) := by decide +kernel
theorem dX7_check_161 : decode cX7_check 161 = .ok (.iload 5, 2) := by decide +kernel
theorem dX7_check_163 : decode cX7_check 163 = .ok (.iload 8, 2) := by decide +kernel
theorem dX7_check_165 : decode cX7_check 165 = .ok (.invokevirtual 118, 3) := by decide +kernel
theorem dX7_check_168 : decode cX7_check 168 = .ok (.ifCond .eq 10, 3) := by decide +kernel
theorem dX7_check_171 : decode cX7_check 171 = .ok (.iload 6, 2) := by decide +kernel
theorem dX7_check_173 : decode cX7_check 173 = .ok (.iload 9, 2) := by decide +kernel
theorem dX7_check_175 : decode cX7_check 175 = .ok (.if_icmp .le 7, 3) := by decide +kernel
theorem dX7_check_178 : decode cX7_check 178 = .ok (.iconst 1, 1) := by decide +kernel
theorem dX7_check_179 : decode cX7_check 179 = .ok (.goto 4, 3) := by decide +kernel
theorem dX7_check_182 : decode cX7_check 182 = .ok (.iconst 0, 1) := by decide +kernel
theorem dX7_check_183 : decode cX7_check 183 = .ok (.istore_n 3, 1) := by decide +kernel
theorem dX7_check_184 : decode cX7_check 184 = .ok (.iload 4, 2) := by decide +kernel
theorem dX7_check_186 : decode cX7_check 186 = .ok (.ifCond .eq 32, 3) := by decide +kernel
theorem dX7_check_189 : decode cX7_check 189 = .ok (.iload 5, 2) := by decide +kernel
theorem dX7_check_191 : decode cX7_check 191 = .ok (.iload 8, 2) := by decide +kernel
theorem dX7_check_193 : decode cX7_check 193 = .ok (.if_icmp .eq 21, 3) := by decide +kernel
theorem dX7_check_196 : decode cX7_check 196 = .ok (.iload 9, 2) := by decide +kernel
theorem dX7_check_198 : decode cX7_check 198 = .ok (.iload 6, 2) := by decide +kernel
theorem dX7_check_200 : decode cX7_check 200 = .ok (.if_icmp .ne 14, 3) := by decide +kernel
theorem dX7_check_203 : decode cX7_check 203 = .ok (.aload_n 0, 1) := by decide +kernel
theorem dX7_check_204 : decode cX7_check 204 = .ok (.iload 5, 2) := by decide +kernel
theorem dX7_check_206 : decode cX7_check 206 = .ok (.iload 8, 2) := by decide +kernel
theorem dX7_check_208 : decode cX7_check 208 = .ok (.invokevirtual 187, 3) := by decide +kernel
theorem dX7_check_211 : decode cX7_check 211 = .ok (.ifCond .eq 7, 3) := by decide +kernel
theorem dX7_check_214 : decode cX7_check 214 = .ok (.iconst 1, 1) := by decide +kernel
theorem dX7_check_215 : decode cX7_check 215 = .ok (.goto 4, 3) := by decide +kernel
theorem dX7_check_218 : decode cX7_check 218 = .ok (.iconst 0, 1) := by decide +kernel
theorem dX7_check_219 : decode cX7_check 219 = .ok (.istore 4, 2) := by decide +kernel
theorem dX7_check_221 : decode cX7_check 221 = .ok (.iinc 8 1, 3) := by decide +kernel
theorem dX7_check_224 : decode cX7_check 224 = .ok (.goto (-108), 3) := by decide +kernel
theorem dX7_check_227 : decode cX7_check 227 = .ok (.iload_n 3, 1) := by decide +kernel
theorem dX7_check_228 : decode cX7_check 228 = .ok (.ifCond .eq 13, 3) := by decide +kernel
theorem dX7_check_231 : decode cX7_check 231 = .ok (.iload 7, 2) := by decide +kernel
theorem dX7_check_233 : decode cX7_check 233 = .ok (.iconst 2, 1) := by decide +kernel
theorem dX7_check_234 : decode cX7_check 234 = .ok (.if_icmp .gt 7, 3) := by decide +kernel
theorem dX7_check_237 : decode cX7_check 237 = .ok (.iconst 1, 1) := by decide +kernel
theorem dX7_check_238 : decode cX7_check 238 = .ok (.goto 4, 3) := by decide +kernel
theorem dX7_check_241 : decode cX7_check 241 = .ok (.iconst 0, 1) := by decide +kernel
theorem dX7_check_242 : decode cX7_check 242 = .ok (.istore_n 3, 1) := by decide +kernel
theorem dX7_check_243 : decode cX7_check 243 = .ok (.iinc 5 1, 3) := by decide +kernel
theorem dX7_check_246 : decode cX7_check 246 = .ok (.goto (-234), 3) := by decide +kernel
theorem dX7_check_249 : decode cX7_check 249 = .ok (.iload_n 3, 1) := by decide +kernel
theorem dX7_check_250 : decode cX7_check 250 = .ok (.ifCond .ne 7, 3) := by decide +kernel
theorem dX7_check_253 : decode cX7_check 253 = .ok (.iconst 0, 1) := by decide +kernel
theorem dX7_check_254 : decode cX7_check 254 = .ok (.goto 13, 3) := by decide +kernel
theorem dX7_check_257 : decode cX7_check 257 = .ok (.iload 4, 2) := by decide +kernel
theorem dX7_check_259 : decode cX7_check 259 = .ok (.ifCond .eq 7, 3) := by decide +kernel
theorem dX7_check_262 : decode cX7_check 262 = .ok (.iconst 2, 1) := by decide +kernel
theorem dX7_check_263 : decode cX7_check 263 = .ok (.goto 4, 3) := by decide +kernel
theorem dX7_check_266 : decode cX7_check 266 = .ok (.iconst 1, 1) := by decide +kernel
theorem dX7_check_267 : decode cX7_check 267 = .ok (.ireturn, 1) := by decide +kernel
theorem dX7_count_0 : decode cX7_count 0 = .ok (.iconst 0, 1) := by decide +kernel
theorem dX7_count_1 : decode cX7_count 1 = .ok (.istore_n 2, 1) := by decide +kernel
theorem dX7_count_2 : decode cX7_count 2 = .ok (.iload_n 1, 1) := by decide +kernel
theorem dX7_count_3 : decode cX7_count 3 = .ok (.tableswitch 159 0 4 #[33, 38, 68, 73, 116], 33) := by decide +kernel
theorem dX7_count_36 : decode cX7_count 36 = .ok (.aload_n 0, 1) := by decide +kernel
theorem dX7_count_37 : decode cX7_count 37 = .ok (.getfield 91, 3) := by decide +kernel
theorem dX7_count_40 : decode cX7_count 40 = .ok (.ireturn, 1) := by decide +kernel
theorem dX7_count_41 : decode cX7_count 41 = .ok (.iconst 0, 1) := by decide +kernel
theorem dX7_count_42 : decode cX7_count 42 = .ok (.istore_n 3, 1) := by decide +kernel
theorem dX7_count_43 : decode cX7_count 43 = .ok (.iload_n 3, 1) := by decide +kernel
theorem dX7_count_44 : decode cX7_count 44 = .ok (.aload_n 0, 1) := by decide +kernel
theorem dX7_count_45 : decode cX7_count 45 = .ok (.getfield 91, 3) := by decide +kernel
theorem dX7_count_48 : decode cX7_count 48 = .ok (.if_icmp .ge 21, 3) := by decide +kernel
theorem dX7_count_51 : decode cX7_count 51 = .ok (.iload_n 2, 1) := by decide +kernel
theorem dX7_count_52 : decode cX7_count 52 = .ok (.aload_n 0, 1) := by decide +kernel
theorem dX7_count_53 : decode cX7_count 53 = .ok (.getfield 31, 3) := by decide +kernel
theorem dX7_count_56 : decode cX7_count 56 = .ok (.iload_n 3, 1) := by decide +kernel
theorem dX7_count_57 : decode cX7_count 57 = .ok (.iaload, 1) := by decide +kernel
theorem dX7_count_58 : decode cX7_count 58 = .ok (.invokestatic 132, 3) := by decide +kernel
theorem dX7_count_61 : decode cX7_count 61 = .ok (.iadd, 1) := by decide +kernel
theorem dX7_count_62 : decode cX7_count 62 = .ok (.istore_n 2, 1) := by decide +kernel
theorem dX7_count_63 : decode cX7_count 63 = .ok (.iinc 3 1, 3) := by decide +kernel
theorem dX7_count_66 : decode cX7_count 66 = .ok (.goto (-23), 3) := by decide +kernel
theorem dX7_count_69 : decode cX7_count 69 = .ok (.iload_n 2, 1) := by decide +kernel
theorem dX7_count_70 : decode cX7_count 70 = .ok (.ireturn, 1) := by decide +kernel
theorem dX7_count_71 : decode cX7_count 71 = .ok (.aload_n 0, 1) := by decide +kernel
theorem dX7_count_72 : decode cX7_count 72 = .ok (.getfield 95, 3) := by decide +kernel
theorem dX7_count_75 : decode cX7_count 75 = .ok (.ireturn, 1) := by decide +kernel
theorem dX7_count_76 : decode cX7_count 76 = .ok (.aload_n 0, 1) := by decide +kernel
theorem dX7_count_77 : decode cX7_count 77 = .ok (.aload_n 0, 1) := by decide +kernel
theorem dX7_count_78 : decode cX7_count 78 = .ok (.invokevirtual 161, 3) := by decide +kernel
theorem dX7_count_81 : decode cX7_count 81 = .ok (.invokevirtual 168, 3) := by decide +kernel
theorem dX7_count_84 : decode cX7_count 84 = .ok (.iconst 1, 1) := by decide +kernel
theorem dX7_count_85 : decode cX7_count 85 = .ok (.istore_n 3, 1) := by decide +kernel
theorem dX7_count_86 : decode cX7_count 86 = .ok (.iload_n 3, 1) := by decide +kernel
theorem dX7_count_87 : decode cX7_count 87 = .ok (.aload_n 0, 1) := by decide +kernel
theorem dX7_count_88 : decode cX7_count 88 = .ok (.getfield 146, 3) := by decide +kernel
theorem dX7_count_91 : decode cX7_count 91 = .ok (.if_icmp .gt 26, 3) := by decide +kernel
theorem dX7_count_94 : decode cX7_count 94 = .ok (.iload_n 2, 1) := by decide +kernel
theorem dX7_count_95 : decode cX7_count 95 = .ok (.aload_n 0, 1) := by decide +kernel
theorem dX7_count_96 : decode cX7_count 96 = .ok (.iload_n 3, 1) := by decide +kernel
theorem dX7_count_97 : decode cX7_count 97 = .ok (.invokevirtual 174, 3) := by decide +kernel
theorem dX7_count_100 : decode cX7_count 100 = .ok (.iconst 1, 1) := by decide +kernel
theorem dX7_count_101 : decode cX7_count 101 = .ok (.if_icmp .ne 7, 3) := by decide +kernel
theorem dX7_count_104 : decode cX7_count 104 = .ok (.iconst 1, 1) := by decide +kernel
theorem dX7_count_105 : decode cX7_count 105 = .ok (.goto 4, 3) := by decide +kernel
theorem dX7_count_108 : decode cX7_count 108 = .ok (.iconst 0, 1) := by decide +kernel
theorem dX7_count_109 : decode cX7_count 109 = .ok (.iadd, 1) := by decide +kernel
theorem dX7_count_110 : decode cX7_count 110 = .ok (.istore_n 2, 1) := by decide +kernel
theorem dX7_count_111 : decode cX7_count 111 = .ok (.iinc 3 1, 3) := by decide +kernel
theorem dX7_count_114 : decode cX7_count 114 = .ok (.goto (-28), 3) := by decide +kernel
theorem dX7_count_117 : decode cX7_count 117 = .ok (.iload_n 2, 1) := by decide +kernel
theorem dX7_count_118 : decode cX7_count 118 = .ok (.ireturn, 1) := by decide +kernel
theorem dX7_count_119 : decode cX7_count 119 = .ok (.aload_n 0, 1) := by decide +kernel
theorem dX7_count_120 : decode cX7_count 120 = .ok (.invokevirtual 165, 3) := by decide +kernel
theorem dX7_count_123 : decode cX7_count 123 = .ok (.iconst 0, 1) := by decide +kernel
theorem dX7_count_124 : decode cX7_count 124 = .ok (.istore_n 3, 1) := by decide +kernel
theorem dX7_count_125 : decode cX7_count 125 = .ok (.iload_n 3, 1) := by decide +kernel
theorem dX7_count_126 : decode cX7_count 126 = .ok (.aload_n 0, 1) := by decide +kernel
theorem dX7_count_127 : decode cX7_count 127 = .ok (.getfield 91, 3) := by decide +kernel
theorem dX7_count_130 : decode cX7_count 130 = .ok (.if_icmp .ge 30, 3) := by decide +kernel
theorem dX7_count_133 : decode cX7_count 133 = .ok (.aload_n 0, 1) := by decide +kernel
theorem dX7_count_134 : decode cX7_count 134 = .ok (.getfield 55, 3) := by decide +kernel
theorem dX7_count_137 : decode cX7_count 137 = .ok (.iload_n 3, 1) := by decide +kernel
theorem dX7_count_138 : decode cX7_count 138 = .ok (.iaload, 1) := by decide +kernel
theorem dX7_count_139 : decode cX7_count 139 = .ok (.iload_n 2, 1) := by decide +kernel
theorem dX7_count_140 : decode cX7_count 140 = .ok (.if_icmp .le 12, 3) := by decide +kernel
theorem dX7_count_143 : decode cX7_count 143 = .ok (.aload_n 0, 1) := by decide +kernel
theorem dX7_count_144 : decode cX7_count 144 = .ok (.getfield 55, 3) := by decide +kernel
theorem dX7_count_147 : decode cX7_count 147 = .ok (.iload_n 3, 1) := by decide +kernel
theorem dX7_count_148 : decode cX7_count 148 = .ok (.iaload, 1) := by decide +kernel
theorem dX7_count_149 : decode cX7_count 149 = .ok (.goto 4, 3) := by decide +kernel
theorem dX7_count_152 : decode cX7_count 152 = .ok (.iload_n 2, 1) := by decide +kernel
theorem dX7_count_153 : decode cX7_count 153 = .ok (.istore_n 2, 1) := by decide +kernel
theorem dX7_count_154 : decode cX7_count 154 = .ok (.iinc 3 1, 3) := by decide +kernel
theorem dX7_count_157 : decode cX7_count 157 = .ok (.goto (-32), 3) := by decide +kernel
theorem dX7_count_160 : decode cX7_count 160 = .ok (.iload_n 2, 1) := by decide +kernel
theorem dX7_count_161 : decode cX7_count 161 = .ok (.ireturn, 1) := by decide +kernel
theorem dX7_count_162 : decode cX7_count 162 = .ok (.iconst (-1), 1) := by decide +kernel
theorem dX7_count_163 : decode cX7_count 163 = .ok (.ireturn, 1) := by decide +kernel
theorem dJ6_bitCount_0f7a4_0 : decode cJ6_bitCount_0f7a4 0 = .ok (.iload_n 0, 1) := by decide +kernel
theorem dJ6_bitCount_0f7a4_1 : decode cJ6_bitCount_0f7a4 1 = .ok (.iload_n 0, 1) := by decide +kernel
theorem dJ6_bitCount_0f7a4_2 : decode cJ6_bitCount_0f7a4 2 = .ok (.iconst 1, 1) := by decide +kernel
theorem dJ6_bitCount_0f7a4_3 : decode cJ6_bitCount_0f7a4 3 = .ok (.iushr, 1) := by decide +kernel
theorem dJ6_bitCount_0f7a4_4 : decode cJ6_bitCount_0f7a4 4 = .ok (.ldc_w 265, 3) := by decide +kernel
theorem dJ6_bitCount_0f7a4_7 : decode cJ6_bitCount_0f7a4 7 = .ok (.iand, 1) := by decide +kernel
theorem dJ6_bitCount_0f7a4_8 : decode cJ6_bitCount_0f7a4 8 = .ok (.isub, 1) := by decide +kernel
theorem dJ6_bitCount_0f7a4_9 : decode cJ6_bitCount_0f7a4 9 = .ok (.istore_n 0, 1) := by decide +kernel
theorem dJ6_bitCount_0f7a4_10 : decode cJ6_bitCount_0f7a4 10 = .ok (.iload_n 0, 1) := by decide +kernel
theorem dJ6_bitCount_0f7a4_11 : decode cJ6_bitCount_0f7a4 11 = .ok (.ldc_w 266, 3) := by decide +kernel
theorem dJ6_bitCount_0f7a4_14 : decode cJ6_bitCount_0f7a4 14 = .ok (.iand, 1) := by decide +kernel
theorem dJ6_bitCount_0f7a4_15 : decode cJ6_bitCount_0f7a4 15 = .ok (.iload_n 0, 1) := by decide +kernel
theorem dJ6_bitCount_0f7a4_16 : decode cJ6_bitCount_0f7a4 16 = .ok (.iconst 2, 1) := by decide +kernel
theorem dJ6_bitCount_0f7a4_17 : decode cJ6_bitCount_0f7a4 17 = .ok (.iushr, 1) := by decide +kernel
theorem dJ6_bitCount_0f7a4_18 : decode cJ6_bitCount_0f7a4 18 = .ok (.ldc_w 266, 3) := by decide +kernel
theorem dJ6_bitCount_0f7a4_21 : decode cJ6_bitCount_0f7a4 21 = .ok (.iand, 1) := by decide +kernel
theorem dJ6_bitCount_0f7a4_22 : decode cJ6_bitCount_0f7a4 22 = .ok (.iadd, 1) := by decide +kernel
theorem dJ6_bitCount_0f7a4_23 : decode cJ6_bitCount_0f7a4 23 = .ok (.istore_n 0, 1) := by decide +kernel
theorem dJ6_bitCount_0f7a4_24 : decode cJ6_bitCount_0f7a4 24 = .ok (.iload_n 0, 1) := by decide +kernel
theorem dJ6_bitCount_0f7a4_25 : decode cJ6_bitCount_0f7a4 25 = .ok (.iload_n 0, 1) := by decide +kernel
theorem dJ6_bitCount_0f7a4_26 : decode cJ6_bitCount_0f7a4 26 = .ok (.iconst 4, 1) := by decide +kernel
theorem dJ6_bitCount_0f7a4_27 : decode cJ6_bitCount_0f7a4 27 = .ok (.iushr, 1) := by decide +kernel
theorem dJ6_bitCount_0f7a4_28 : decode cJ6_bitCount_0f7a4 28 = .ok (.iadd, 1) := by decide +kernel
theorem dJ6_bitCount_0f7a4_29 : decode cJ6_bitCount_0f7a4 29 = .ok (.ldc_w 267, 3) := by decide +kernel
theorem dJ6_bitCount_0f7a4_32 : decode cJ6_bitCount_0f7a4 32 = .ok (.iand, 1) := by decide +kernel
theorem dJ6_bitCount_0f7a4_33 : decode cJ6_bitCount_0f7a4 33 = .ok (.istore_n 0, 1) := by decide +kernel
theorem dJ6_bitCount_0f7a4_34 : decode cJ6_bitCount_0f7a4 34 = .ok (.iload_n 0, 1) := by decide +kernel
theorem dJ6_bitCount_0f7a4_35 : decode cJ6_bitCount_0f7a4 35 = .ok (.iload_n 0, 1) := by decide +kernel
theorem dJ6_bitCount_0f7a4_36 : decode cJ6_bitCount_0f7a4 36 = .ok (.bipush 8, 2) := by decide +kernel
theorem dJ6_bitCount_0f7a4_38 : decode cJ6_bitCount_0f7a4 38 = .ok (.iushr, 1) := by decide +kernel
theorem dJ6_bitCount_0f7a4_39 : decode cJ6_bitCount_0f7a4 39 = .ok (.iadd, 1) := by decide +kernel
theorem dJ6_bitCount_0f7a4_40 : decode cJ6_bitCount_0f7a4 40 = .ok (.istore_n 0, 1) := by decide +kernel
theorem dJ6_bitCount_0f7a4_41 : decode cJ6_bitCount_0f7a4 41 = .ok (.iload_n 0, 1) := by decide +kernel
theorem dJ6_bitCount_0f7a4_42 : decode cJ6_bitCount_0f7a4 42 = .ok (.iload_n 0, 1) := by decide +kernel
theorem dJ6_bitCount_0f7a4_43 : decode cJ6_bitCount_0f7a4 43 = .ok (.bipush 16, 2) := by decide +kernel
theorem dJ6_bitCount_0f7a4_45 : decode cJ6_bitCount_0f7a4 45 = .ok (.iushr, 1) := by decide +kernel
theorem dJ6_bitCount_0f7a4_46 : decode cJ6_bitCount_0f7a4 46 = .ok (.iadd, 1) := by decide +kernel
theorem dJ6_bitCount_0f7a4_47 : decode cJ6_bitCount_0f7a4 47 = .ok (.istore_n 0, 1) := by decide +kernel
theorem dJ6_bitCount_0f7a4_48 : decode cJ6_bitCount_0f7a4 48 = .ok (.iload_n 0, 1) := by decide +kernel
theorem dJ6_bitCount_0f7a4_49 : decode cJ6_bitCount_0f7a4 49 = .ok (.bipush 63, 2) := by decide +kernel
theorem dJ6_bitCount_0f7a4_51 : decode cJ6_bitCount_0f7a4 51 = .ok (.iand, 1) := by decide +kernel
theorem dJ6_bitCount_0f7a4_52 : decode cJ6_bitCount_0f7a4 52 = .ok (.ireturn, 1) := by decide +kernel
theorem dJ9_max_7cf53_0 : decode cJ9_max_7cf53 0 = .ok (.iload_n 0, 1) := by decide +kernel
theorem dJ9_max_7cf53_1 : decode cJ9_max_7cf53 1 = .ok (.iload_n 1, 1) := by decide +kernel
theorem dJ9_max_7cf53_2 : decode cJ9_max_7cf53 2 = .ok (.if_icmp .lt 7, 3) := by decide +kernel
theorem dJ9_max_7cf53_5 : decode cJ9_max_7cf53 5 = .ok (.iload_n 0, 1) := by decide +kernel
theorem dJ9_max_7cf53_6 : decode cJ9_max_7cf53 6 = .ok (.goto 4, 3) := by decide +kernel
theorem dJ9_max_7cf53_9 : decode cJ9_max_7cf53 9 = .ok (.iload_n 1, 1) := by decide +kernel
theorem dJ9_max_7cf53_10 : decode cJ9_max_7cf53 10 = .ok (.ireturn, 1) := by decide +kernel
theorem dJ9_min_7cf53_0 : decode cJ9_min_7cf53 0 = .ok (.iload_n 0, 1) := by decide +kernel
theorem dJ9_min_7cf53_1 : decode cJ9_min_7cf53 1 = .ok (.iload_n 1, 1) := by decide +kernel
theorem dJ9_min_7cf53_2 : decode cJ9_min_7cf53 2 = .ok (.if_icmp .gt 7, 3) := by decide +kernel
theorem dJ9_min_7cf53_5 : decode cJ9_min_7cf53 5 = .ok (.iload_n 0, 1) := by decide +kernel
theorem dJ9_min_7cf53_6 : decode cJ9_min_7cf53 6 = .ok (.goto 4, 3) := by decide +kernel
theorem dJ9_min_7cf53_9 : decode cJ9_min_7cf53 9 = .ok (.iload_n 1, 1) := by decide +kernel
theorem dJ9_min_7cf53_10 : decode cJ9_min_7cf53 10 = .ok (.ireturn, 1) := by decide +kernel
theorem dJ7_fill_53178_0 : decode cJ7_fill_53178 0 = .ok (.iconst 0, 1) := by decide +kernel
theorem dJ7_fill_53178_1 : decode cJ7_fill_53178 1 = .ok (.istore_n 2, 1) := by decide +kernel
theorem dJ7_fill_53178_2 : decode cJ7_fill_53178 2 = .ok (.aload_n 0, 1) := by decide +kernel
theorem dJ7_fill_53178_3 : decode cJ7_fill_53178 3 = .ok (.arraylength, 1) := by decide +kernel
theorem dJ7_fill_53178_4 : decode cJ7_fill_53178 4 = .ok (.istore_n 3, 1) := by decide +kernel
theorem dJ7_fill_53178_5 : decode cJ7_fill_53178 5 = .ok (.iload_n 2, 1) := by decide +kernel
theorem dJ7_fill_53178_6 : decode cJ7_fill_53178 6 = .ok (.iload_n 3, 1) := by decide +kernel
theorem dJ7_fill_53178_7 : decode cJ7_fill_53178 7 = .ok (.if_icmp .ge 13, 3) := by decide +kernel
theorem dJ7_fill_53178_10 : decode cJ7_fill_53178 10 = .ok (.aload_n 0, 1) := by decide +kernel
theorem dJ7_fill_53178_11 : decode cJ7_fill_53178 11 = .ok (.iload_n 2, 1) := by decide +kernel
theorem dJ7_fill_53178_12 : decode cJ7_fill_53178 12 = .ok (.iload_n 1, 1) := by decide +kernel
theorem dJ7_fill_53178_13 : decode cJ7_fill_53178 13 = .ok (.iastore, 1) := by decide +kernel
theorem dJ7_fill_53178_14 : decode cJ7_fill_53178 14 = .ok (.iinc 2 1, 3) := by decide +kernel
theorem dJ7_fill_53178_17 : decode cJ7_fill_53178 17 = .ok (.goto (-12), 3) := by decide +kernel
theorem dJ7_fill_53178_20 : decode cJ7_fill_53178 20 = .ok (.return_, 1) := by decide +kernel
theorem dL_law_0 : decode cL_law 0 = .ok (.new 7, 3) := by decide +kernel
theorem dL_law_3 : decode cL_law 3 = .ok (.dup, 1) := by decide +kernel
theorem dL_law_4 : decode cL_law 4 = .ok (.invokespecial 9, 3) := by decide +kernel
theorem dL_law_7 : decode cL_law 7 = .ok (.astore_n 1, 1) := by decide +kernel
theorem dL_law_8 : decode cL_law 8 = .ok (.new 10, 3) := by decide +kernel
theorem dL_law_11 : decode cL_law 11 = .ok (.dup, 1) := by decide +kernel
theorem dL_law_12 : decode cL_law 12 = .ok (.invokespecial 12, 3) := by decide +kernel
theorem dL_law_15 : decode cL_law 15 = .ok (.astore_n 2, 1) := by decide +kernel
theorem dL_law_16 : decode cL_law 16 = .ok (.iconst 0, 1) := by decide +kernel
theorem dL_law_17 : decode cL_law 17 = .ok (.istore_n 3, 1) := by decide +kernel
theorem dL_law_18 : decode cL_law 18 = .ok (.iload_n 3, 1) := by decide +kernel
theorem dL_law_19 : decode cL_law 19 = .ok (.aload_n 0, 1) := by decide +kernel
theorem dL_law_20 : decode cL_law 20 = .ok (.arraylength, 1) := by decide +kernel
theorem dL_law_21 : decode cL_law 21 = .ok (.bipush 6, 2) := by decide +kernel
theorem dL_law_23 : decode cL_law 23 = .ok (.isub, 1) := by decide +kernel
theorem dL_law_24 : decode cL_law 24 = .ok (.if_icmp .gt 741, 3) := by decide +kernel
theorem dL_law_27 : decode cL_law 27 = .ok (.aload_n 0, 1) := by decide +kernel
theorem dL_law_28 : decode cL_law 28 = .ok (.iload_n 3, 1) := by decide +kernel
theorem dL_law_29 : decode cL_law 29 = .ok (.iaload, 1) := by decide +kernel
theorem dL_law_30 : decode cL_law 30 = .ok (.bipush 31, 2) := by decide +kernel
theorem dL_law_32 : decode cL_law 32 = .ok (.iand, 1) := by decide +kernel
theorem dL_law_33 : decode cL_law 33 = .ok (.tableswitch 726 0 19 #[95, 138, 181, 244, 278, 321, 354, 407, 440, 463, 496, 509, 522, 555, 578, 591, 614, 627, 650, 703], 95) := by decide +kernel
theorem dL_law_128 : decode cL_law 128 = .ok (.aload_n 1, 1) := by decide +kernel
theorem dL_law_129 : decode cL_law 129 = .ok (.aload_n 0, 1) := by decide +kernel
theorem dL_law_130 : decode cL_law 130 = .ok (.iload_n 3, 1) := by decide +kernel
theorem dL_law_131 : decode cL_law 131 = .ok (.iconst 1, 1) := by decide +kernel
theorem dL_law_132 : decode cL_law 132 = .ok (.iadd, 1) := by decide +kernel
theorem dL_law_133 : decode cL_law 133 = .ok (.iaload, 1) := by decide +kernel
theorem dL_law_134 : decode cL_law 134 = .ok (.aload_n 0, 1) := by decide +kernel
theorem dL_law_135 : decode cL_law 135 = .ok (.iload_n 3, 1) := by decide +kernel
theorem dL_law_136 : decode cL_law 136 = .ok (.iconst 2, 1) := by decide +kernel
theorem dL_law_137 : decode cL_law 137 = .ok (.iadd, 1) := by decide +kernel
theorem dL_law_138 : decode cL_law 138 = .ok (.iaload, 1) := by decide +kernel
theorem dL_law_139 : decode cL_law 139 = .ok (.aload_n 0, 1) := by decide +kernel
theorem dL_law_140 : decode cL_law 140 = .ok (.iload_n 3, 1) := by decide +kernel
theorem dL_law_141 : decode cL_law 141 = .ok (.iconst 3, 1) := by decide +kernel
theorem dL_law_142 : decode cL_law 142 = .ok (.iadd, 1) := by decide +kernel
theorem dL_law_143 : decode cL_law 143 = .ok (.iaload, 1) := by decide +kernel
theorem dL_law_144 : decode cL_law 144 = .ok (.invokevirtual 13, 3) := by decide +kernel
theorem dL_law_147 : decode cL_law 147 = .ok (.aload_n 2, 1) := by decide +kernel
theorem dL_law_148 : decode cL_law 148 = .ok (.aload_n 0, 1) := by decide +kernel
theorem dL_law_149 : decode cL_law 149 = .ok (.iload_n 3, 1) := by decide +kernel
theorem dL_law_150 : decode cL_law 150 = .ok (.iconst 1, 1) := by decide +kernel
theorem dL_law_151 : decode cL_law 151 = .ok (.iadd, 1) := by decide +kernel
theorem dL_law_152 : decode cL_law 152 = .ok (.iaload, 1) := by decide +kernel
theorem dL_law_153 : decode cL_law 153 = .ok (.aload_n 0, 1) := by decide +kernel
theorem dL_law_154 : decode cL_law 154 = .ok (.iload_n 3, 1) := by decide +kernel
theorem dL_law_155 : decode cL_law 155 = .ok (.iconst 2, 1) := by decide +kernel
theorem dL_law_156 : decode cL_law 156 = .ok (.iadd, 1) := by decide +kernel
theorem dL_law_157 : decode cL_law 157 = .ok (.iaload, 1) := by decide +kernel
theorem dL_law_158 : decode cL_law 158 = .ok (.aload_n 0, 1) := by decide +kernel
theorem dL_law_159 : decode cL_law 159 = .ok (.iload_n 3, 1) := by decide +kernel
theorem dL_law_160 : decode cL_law 160 = .ok (.iconst 3, 1) := by decide +kernel
theorem dL_law_161 : decode cL_law 161 = .ok (.iadd, 1) := by decide +kernel
theorem dL_law_162 : decode cL_law 162 = .ok (.iaload, 1) := by decide +kernel
theorem dL_law_163 : decode cL_law 163 = .ok (.invokevirtual 17, 3) := by decide +kernel
theorem dL_law_166 : decode cL_law 166 = .ok (.if_icmp .eq 593, 3) := by decide +kernel
theorem dL_law_169 : decode cL_law 169 = .ok (.iconst 0, 1) := by decide +kernel
theorem dL_law_170 : decode cL_law 170 = .ok (.ireturn, 1) := by decide +kernel
theorem dL_law_171 : decode cL_law 171 = .ok (.aload_n 1, 1) := by decide +kernel
theorem dL_law_172 : decode cL_law 172 = .ok (.aload_n 0, 1) := by decide +kernel
theorem dL_law_173 : decode cL_law 173 = .ok (.iload_n 3, 1) := by decide +kernel
theorem dL_law_174 : decode cL_law 174 = .ok (.iconst 1, 1) := by decide +kernel
theorem dL_law_175 : decode cL_law 175 = .ok (.iadd, 1) := by decide +kernel
theorem dL_law_176 : decode cL_law 176 = .ok (.iaload, 1) := by decide +kernel
theorem dL_law_177 : decode cL_law 177 = .ok (.aload_n 0, 1) := by decide +kernel
theorem dL_law_178 : decode cL_law 178 = .ok (.iload_n 3, 1) := by decide +kernel
theorem dL_law_179 : decode cL_law 179 = .ok (.iconst 2, 1) := by decide +kernel
theorem dL_law_180 : decode cL_law 180 = .ok (.iadd, 1) := by decide +kernel
theorem dL_law_181 : decode cL_law 181 = .ok (.iaload, 1) := by decide +kernel
theorem dL_law_182 : decode cL_law 182 = .ok (.aload_n 0, 1) := by decide +kernel
theorem dL_law_183 : decode cL_law 183 = .ok (.iload_n 3, 1) := by decide +kernel
theorem dL_law_184 : decode cL_law 184 = .ok (.iconst 3, 1) := by decide +kernel
theorem dL_law_185 : decode cL_law 185 = .ok (.iadd, 1) := by decide +kernel
theorem dL_law_186 : decode cL_law 186 = .ok (.iaload, 1) := by decide +kernel
theorem dL_law_187 : decode cL_law 187 = .ok (.invokevirtual 18, 3) := by decide +kernel
theorem dL_law_190 : decode cL_law 190 = .ok (.aload_n 2, 1) := by decide +kernel
theorem dL_law_191 : decode cL_law 191 = .ok (.aload_n 0, 1) := by decide +kernel
theorem dL_law_192 : decode cL_law 192 = .ok (.iload_n 3, 1) := by decide +kernel
theorem dL_law_193 : decode cL_law 193 = .ok (.iconst 1, 1) := by decide +kernel
theorem dL_law_194 : decode cL_law 194 = .ok (.iadd, 1) := by decide +kernel
theorem dL_law_195 : decode cL_law 195 = .ok (.iaload, 1) := by decide +kernel
theorem dL_law_196 : decode cL_law 196 = .ok (.aload_n 0, 1) := by decide +kernel
theorem dL_law_197 : decode cL_law 197 = .ok (.iload_n 3, 1) := by decide +kernel
theorem dL_law_198 : decode cL_law 198 = .ok (.iconst 2, 1) := by decide +kernel
theorem dL_law_199 : decode cL_law 199 = .ok (.iadd, 1) := by decide +kernel
theorem dL_law_200 : decode cL_law 200 = .ok (.iaload, 1) := by decide +kernel
theorem dL_law_201 : decode cL_law 201 = .ok (.aload_n 0, 1) := by decide +kernel
theorem dL_law_202 : decode cL_law 202 = .ok (.iload_n 3, 1) := by decide +kernel
theorem dL_law_203 : decode cL_law 203 = .ok (.iconst 3, 1) := by decide +kernel
theorem dL_law_204 : decode cL_law 204 = .ok (.iadd, 1) := by decide +kernel
theorem dL_law_205 : decode cL_law 205 = .ok (.iaload, 1) := by decide +kernel
theorem dL_law_206 : decode cL_law 206 = .ok (.invokevirtual 21, 3) := by decide +kernel
theorem dL_law_209 : decode cL_law 209 = .ok (.if_icmp .eq 550, 3) := by decide +kernel
theorem dL_law_212 : decode cL_law 212 = .ok (.iconst 0, 1) := by decide +kernel
theorem dL_law_213 : decode cL_law 213 = .ok (.ireturn, 1) := by decide +kernel
theorem dL_law_214 : decode cL_law 214 = .ok (.aload_n 1, 1) := by decide +kernel
theorem dL_law_215 : decode cL_law 215 = .ok (.aload_n 0, 1) := by decide +kernel
theorem dL_law_216 : decode cL_law 216 = .ok (.iload_n 3, 1) := by decide +kernel
theorem dL_law_217 : decode cL_law 217 = .ok (.iconst 1, 1) := by decide +kernel
theorem dL_law_218 : decode cL_law 218 = .ok (.iadd, 1) := by decide +kernel
theorem dL_law_219 : decode cL_law 219 = .ok (.iaload, 1) := by decide +kernel
theorem dL_law_220 : decode cL_law 220 = .ok (.aload_n 0, 1) := by decide +kernel
theorem dL_law_221 : decode cL_law 221 = .ok (.iload_n 3, 1) := by decide +kernel
theorem dL_law_222 : decode cL_law 222 = .ok (.iconst 2, 1) := by decide +kernel
theorem dL_law_223 : decode cL_law 223 = .ok (.iadd, 1) := by decide +kernel
theorem dL_law_224 : decode cL_law 224 = .ok (.iaload, 1) := by decide +kernel
theorem dL_law_225 : decode cL_law 225 = .ok (.aload_n 0, 1) := by decide +kernel
theorem dL_law_226 : decode cL_law 226 = .ok (.iload_n 3, 1) := by decide +kernel
theorem dL_law_227 : decode cL_law 227 = .ok (.iconst 3, 1) := by decide +kernel
theorem dL_law_228 : decode cL_law 228 = .ok (.iadd, 1) := by decide +kernel
theorem dL_law_229 : decode cL_law 229 = .ok (.iaload, 1) := by decide +kernel
theorem dL_law_230 : decode cL_law 230 = .ok (.aload_n 0, 1) := by decide +kernel
theorem dL_law_231 : decode cL_law 231 = .ok (.iload_n 3, 1) := by decide +kernel
theorem dL_law_232 : decode cL_law 232 = .ok (.iconst 4, 1) := by decide +kernel
theorem dL_law_233 : decode cL_law 233 = .ok (.iadd, 1) := by decide +kernel
theorem dL_law_234 : decode cL_law 234 = .ok (.iaload, 1) := by decide +kernel
theorem dL_law_235 : decode cL_law 235 = .ok (.aload_n 0, 1) := by decide +kernel
theorem dL_law_236 : decode cL_law 236 = .ok (.iload_n 3, 1) := by decide +kernel
theorem dL_law_237 : decode cL_law 237 = .ok (.iconst 5, 1) := by decide +kernel
theorem dL_law_238 : decode cL_law 238 = .ok (.iadd, 1) := by decide +kernel
theorem dL_law_239 : decode cL_law 239 = .ok (.iaload, 1) := by decide +kernel
theorem dL_law_240 : decode cL_law 240 = .ok (.invokevirtual 22, 3) := by decide +kernel
theorem dL_law_243 : decode cL_law 243 = .ok (.aload_n 2, 1) := by decide +kernel
theorem dL_law_244 : decode cL_law 244 = .ok (.aload_n 0, 1) := by decide +kernel
theorem dL_law_245 : decode cL_law 245 = .ok (.iload_n 3, 1) := by decide +kernel
theorem dL_law_246 : decode cL_law 246 = .ok (.iconst 1, 1) := by decide +kernel
theorem dL_law_247 : decode cL_law 247 = .ok (.iadd, 1) := by decide +kernel
theorem dL_law_248 : decode cL_law 248 = .ok (.iaload, 1) := by decide +kernel
theorem dL_law_249 : decode cL_law 249 = .ok (.aload_n 0, 1) := by decide +kernel
theorem dL_law_250 : decode cL_law 250 = .ok (.iload_n 3, 1) := by decide +kernel
theorem dL_law_251 : decode cL_law 251 = .ok (.iconst 2, 1) := by decide +kernel
theorem dL_law_252 : decode cL_law 252 = .ok (.iadd, 1) := by decide +kernel
theorem dL_law_253 : decode cL_law 253 = .ok (.iaload, 1) := by decide +kernel
theorem dL_law_254 : decode cL_law 254 = .ok (.aload_n 0, 1) := by decide +kernel
theorem dL_law_255 : decode cL_law 255 = .ok (.iload_n 3, 1) := by decide +kernel
theorem dL_law_256 : decode cL_law 256 = .ok (.iconst 3, 1) := by decide +kernel
theorem dL_law_257 : decode cL_law 257 = .ok (.iadd, 1) := by decide +kernel
theorem dL_law_258 : decode cL_law 258 = .ok (.iaload, 1) := by decide +kernel
theorem dL_law_259 : decode cL_law 259 = .ok (.aload_n 0, 1) := by decide +kernel
theorem dL_law_260 : decode cL_law 260 = .ok (.iload_n 3, 1) := by decide +kernel
theorem dL_law_261 : decode cL_law 261 = .ok (.iconst 4, 1) := by decide +kernel
theorem dL_law_262 : decode cL_law 262 = .ok (.iadd, 1) := by decide +kernel
theorem dL_law_263 : decode cL_law 263 = .ok (.iaload, 1) := by decide +kernel
theorem dL_law_264 : decode cL_law 264 = .ok (.aload_n 0, 1) := by decide +kernel
theorem dL_law_265 : decode cL_law 265 = .ok (.iload_n 3, 1) := by decide +kernel
theorem dL_law_266 : decode cL_law 266 = .ok (.iconst 5, 1) := by decide +kernel
theorem dL_law_267 : decode cL_law 267 = .ok (.iadd, 1) := by decide +kernel
theorem dL_law_268 : decode cL_law 268 = .ok (.iaload, 1) := by decide +kernel
theorem dL_law_269 : decode cL_law 269 = .ok (.invokevirtual 26, 3) := by decide +kernel
theorem dL_law_272 : decode cL_law 272 = .ok (.if_icmp .eq 487, 3) := by decide +kernel
theorem dL_law_275 : decode cL_law 275 = .ok (.iconst 0, 1) := by decide +kernel
theorem dL_law_276 : decode cL_law 276 = .ok (.ireturn, 1) := by decide +kernel
theorem dL_law_277 : decode cL_law 277 = .ok (.aload_n 1, 1) := by decide +kernel
theorem dL_law_278 : decode cL_law 278 = .ok (.aload_n 0, 1) := by decide +kernel
theorem dL_law_279 : decode cL_law 279 = .ok (.iload_n 3, 1) := by decide +kernel
theorem dL_law_280 : decode cL_law 280 = .ok (.iconst 1, 1) := by decide +kernel
theorem dL_law_281 : decode cL_law 281 = .ok (.iadd, 1) := by decide +kernel
theorem dL_law_282 : decode cL_law 282 = .ok (.iaload, 1) := by decide +kernel
theorem dL_law_283 : decode cL_law 283 = .ok (.aload_n 0, 1) := by decide +kernel
theorem dL_law_284 : decode cL_law 284 = .ok (.iload_n 3, 1) := by decide +kernel
theorem dL_law_285 : decode cL_law 285 = .ok (.iconst 2, 1) := by decide +kernel
theorem dL_law_286 : decode cL_law 286 = .ok (.iadd, 1) := by decide +kernel
theorem dL_law_287 : decode cL_law 287 = .ok (.iaload, 1) := by decide +kernel
theorem dL_law_288 : decode cL_law 288 = .ok (.invokevirtual 27, 3) := by decide +kernel
theorem dL_law_291 : decode cL_law 291 = .ok (.aload_n 2, 1) := by decide +kernel
theorem dL_law_292 : decode cL_law 292 = .ok (.aload_n 0, 1) := by decide +kernel
theorem dL_law_293 : decode cL_law 293 = .ok (.iload_n 3, 1) := by decide +kernel
theorem dL_law_294 : decode cL_law 294 = .ok (.iconst 1, 1) := by decide +kernel
theorem dL_law_295 : decode cL_law 295 = .ok (.iadd, 1) := by decide +kernel
theorem dL_law_296 : decode cL_law 296 = .ok (.iaload, 1) := by decide +kernel
theorem dL_law_297 : decode cL_law 297 = .ok (.aload_n 0, 1) := by decide +kernel
theorem dL_law_298 : decode cL_law 298 = .ok (.iload_n 3, 1) := by decide +kernel
theorem dL_law_299 : decode cL_law 299 = .ok (.iconst 2, 1) := by decide +kernel
theorem dL_law_300 : decode cL_law 300 = .ok (.iadd, 1) := by decide +kernel
theorem dL_law_301 : decode cL_law 301 = .ok (.iaload, 1) := by decide +kernel
theorem dL_law_302 : decode cL_law 302 = .ok (.invokevirtual 31, 3) := by decide +kernel
theorem dL_law_305 : decode cL_law 305 = .ok (.lcmp, 1) := by decide +kernel
theorem dL_law_306 : decode cL_law 306 = .ok (.ifCond .eq 453, 3) := by decide +kernel
theorem dL_law_309 : decode cL_law 309 = .ok (.iconst 0, 1) := by decide +kernel
theorem dL_law_310 : decode cL_law 310 = .ok (.ireturn, 1) := by decide +kernel
theorem dL_law_311 : decode cL_law 311 = .ok (.aload_n 1, 1) := by decide +kernel
theorem dL_law_312 : decode cL_law 312 = .ok (.aload_n 0, 1) := by decide +kernel
theorem dL_law_313 : decode cL_law 313 = .ok (.iload_n 3, 1) := by decide +kernel
theorem dL_law_314 : decode cL_law 314 = .ok (.iconst 1, 1) := by decide +kernel
theorem dL_law_315 : decode cL_law 315 = .ok (.iadd, 1) := by decide +kernel
theorem dL_law_316 : decode cL_law 316 = .ok (.iaload, 1) := by decide +kernel
theorem dL_law_317 : decode cL_law 317 = .ok (.aload_n 0, 1) := by decide +kernel
theorem dL_law_318 : decode cL_law 318 = .ok (.iload_n 3, 1) := by decide +kernel
theorem dL_law_319 : decode cL_law 319 = .ok (.iconst 2, 1) := by decide +kernel
theorem dL_law_320 : decode cL_law 320 = .ok (.iadd, 1) := by decide +kernel
theorem dL_law_321 : decode cL_law 321 = .ok (.iaload, 1) := by decide +kernel
theorem dL_law_322 : decode cL_law 322 = .ok (.aload_n 0, 1) := by decide +kernel
theorem dL_law_323 : decode cL_law 323 = .ok (.iload_n 3, 1) := by decide +kernel
theorem dL_law_324 : decode cL_law 324 = .ok (.iconst 3, 1) := by decide +kernel
theorem dL_law_325 : decode cL_law 325 = .ok (.iadd, 1) := by decide +kernel
theorem dL_law_326 : decode cL_law 326 = .ok (.iaload, 1) := by decide +kernel
theorem dL_law_327 : decode cL_law 327 = .ok (.invokevirtual 32, 3) := by decide +kernel
theorem dL_law_330 : decode cL_law 330 = .ok (.aload_n 2, 1) := by decide +kernel
theorem dL_law_331 : decode cL_law 331 = .ok (.aload_n 0, 1) := by decide +kernel
theorem dL_law_332 : decode cL_law 332 = .ok (.iload_n 3, 1) := by decide +kernel
theorem dL_law_333 : decode cL_law 333 = .ok (.iconst 1, 1) := by decide +kernel
theorem dL_law_334 : decode cL_law 334 = .ok (.iadd, 1) := by decide +kernel
theorem dL_law_335 : decode cL_law 335 = .ok (.iaload, 1) := by decide +kernel
theorem dL_law_336 : decode cL_law 336 = .ok (.aload_n 0, 1) := by decide +kernel
theorem dL_law_337 : decode cL_law 337 = .ok (.iload_n 3, 1) := by decide +kernel
theorem dL_law_338 : decode cL_law 338 = .ok (.iconst 2, 1) := by decide +kernel
theorem dL_law_339 : decode cL_law 339 = .ok (.iadd, 1) := by decide +kernel
theorem dL_law_340 : decode cL_law 340 = .ok (.iaload, 1) := by decide +kernel
theorem dL_law_341 : decode cL_law 341 = .ok (.aload_n 0, 1) := by decide +kernel
theorem dL_law_342 : decode cL_law 342 = .ok (.iload_n 3, 1) := by decide +kernel
theorem dL_law_343 : decode cL_law 343 = .ok (.iconst 3, 1) := by decide +kernel
theorem dL_law_344 : decode cL_law 344 = .ok (.iadd, 1) := by decide +kernel
theorem dL_law_345 : decode cL_law 345 = .ok (.iaload, 1) := by decide +kernel
theorem dL_law_346 : decode cL_law 346 = .ok (.invokevirtual 35, 3) := by decide +kernel
theorem dL_law_349 : decode cL_law 349 = .ok (.if_icmp .eq 410, 3) := by decide +kernel
theorem dL_law_352 : decode cL_law 352 = .ok (.iconst 0, 1) := by decide +kernel
theorem dL_law_353 : decode cL_law 353 = .ok (.ireturn, 1) := by decide +kernel
theorem dL_law_354 : decode cL_law 354 = .ok (.aload_n 1, 1) := by decide +kernel
theorem dL_law_355 : decode cL_law 355 = .ok (.aload_n 0, 1) := by decide +kernel
theorem dL_law_356 : decode cL_law 356 = .ok (.iload_n 3, 1) := by decide +kernel
theorem dL_law_357 : decode cL_law 357 = .ok (.iconst 1, 1) := by decide +kernel
theorem dL_law_358 : decode cL_law 358 = .ok (.iadd, 1) := by decide +kernel
theorem dL_law_359 : decode cL_law 359 = .ok (.iaload, 1) := by decide +kernel
theorem dL_law_360 : decode cL_law 360 = .ok (.aload_n 0, 1) := by decide +kernel
theorem dL_law_361 : decode cL_law 361 = .ok (.iload_n 3, 1) := by decide +kernel
theorem dL_law_362 : decode cL_law 362 = .ok (.iconst 2, 1) := by decide +kernel
theorem dL_law_363 : decode cL_law 363 = .ok (.iadd, 1) := by decide +kernel
theorem dL_law_364 : decode cL_law 364 = .ok (.iaload, 1) := by decide +kernel
theorem dL_law_365 : decode cL_law 365 = .ok (.invokevirtual 36, 3) := by decide +kernel
theorem dL_law_368 : decode cL_law 368 = .ok (.aload_n 2, 1) := by decide +kernel
theorem dL_law_369 : decode cL_law 369 = .ok (.aload_n 0, 1) := by decide +kernel
theorem dL_law_370 : decode cL_law 370 = .ok (.iload_n 3, 1) := by decide +kernel
theorem dL_law_371 : decode cL_law 371 = .ok (.iconst 1, 1) := by decide +kernel
theorem dL_law_372 : decode cL_law 372 = .ok (.iadd, 1) := by decide +kernel
theorem dL_law_373 : decode cL_law 373 = .ok (.iaload, 1) := by decide +kernel
theorem dL_law_374 : decode cL_law 374 = .ok (.aload_n 0, 1) := by decide +kernel
theorem dL_law_375 : decode cL_law 375 = .ok (.iload_n 3, 1) := by decide +kernel
theorem dL_law_376 : decode cL_law 376 = .ok (.iconst 2, 1) := by decide +kernel
theorem dL_law_377 : decode cL_law 377 = .ok (.iadd, 1) := by decide +kernel
theorem dL_law_378 : decode cL_law 378 = .ok (.iaload, 1) := by decide +kernel
theorem dL_law_379 : decode cL_law 379 = .ok (.invokevirtual 40, 3) := by decide +kernel
theorem dL_law_382 : decode cL_law 382 = .ok (.if_icmp .eq 377, 3) := by decide +kernel
theorem dL_law_385 : decode cL_law 385 = .ok (.iconst 0, 1) := by decide +kernel
theorem dL_law_386 : decode cL_law 386 = .ok (.ireturn, 1) := by decide +kernel
theorem dL_law_387 : decode cL_law 387 = .ok (.aload_n 1, 1) := by decide +kernel
theorem dL_law_388 : decode cL_law 388 = .ok (.aload_n 0, 1) := by decide +kernel
theorem dL_law_389 : decode cL_law 389 = .ok (.iload_n 3, 1) := by decide +kernel
theorem dL_law_390 : decode cL_law 390 = .ok (.iconst 1, 1) := by decide +kernel
theorem dL_law_391 : decode cL_law 391 = .ok (.iadd, 1) := by decide +kernel
theorem dL_law_392 : decode cL_law 392 = .ok (.iaload, 1) := by decide +kernel
theorem dL_law_393 : decode cL_law 393 = .ok (.aload_n 0, 1) := by decide +kernel
theorem dL_law_394 : decode cL_law 394 = .ok (.iload_n 3, 1) := by decide +kernel
theorem dL_law_395 : decode cL_law 395 = .ok (.iconst 2, 1) := by decide +kernel
theorem dL_law_396 : decode cL_law 396 = .ok (.iadd, 1) := by decide +kernel
theorem dL_law_397 : decode cL_law 397 = .ok (.iaload, 1) := by decide +kernel
theorem dL_law_398 : decode cL_law 398 = .ok (.aload_n 0, 1) := by decide +kernel
theorem dL_law_399 : decode cL_law 399 = .ok (.iload_n 3, 1) := by decide +kernel
theorem dL_law_400 : decode cL_law 400 = .ok (.iconst 3, 1) := by decide +kernel
theorem dL_law_401 : decode cL_law 401 = .ok (.iadd, 1) := by decide +kernel
theorem dL_law_402 : decode cL_law 402 = .ok (.iaload, 1) := by decide +kernel
theorem dL_law_403 : decode cL_law 403 = .ok (.aload_n 0, 1) := by decide +kernel
theorem dL_law_404 : decode cL_law 404 = .ok (.iload_n 3, 1) := by decide +kernel
theorem dL_law_405 : decode cL_law 405 = .ok (.iconst 4, 1) := by decide +kernel
theorem dL_law_406 : decode cL_law 406 = .ok (.iadd, 1) := by decide +kernel
theorem dL_law_407 : decode cL_law 407 = .ok (.iaload, 1) := by decide +kernel
theorem dL_law_408 : decode cL_law 408 = .ok (.invokevirtual 41, 3) := by decide +kernel
theorem dL_law_411 : decode cL_law 411 = .ok (.aload_n 2, 1) := by decide +kernel
theorem dL_law_412 : decode cL_law 412 = .ok (.aload_n 0, 1) := by decide +kernel
theorem dL_law_413 : decode cL_law 413 = .ok (.iload_n 3, 1) := by decide +kernel
theorem dL_law_414 : decode cL_law 414 = .ok (.iconst 1, 1) := by decide +kernel
theorem dL_law_415 : decode cL_law 415 = .ok (.iadd, 1) := by decide +kernel
theorem dL_law_416 : decode cL_law 416 = .ok (.iaload, 1) := by decide +kernel
theorem dL_law_417 : decode cL_law 417 = .ok (.aload_n 0, 1) := by decide +kernel
theorem dL_law_418 : decode cL_law 418 = .ok (.iload_n 3, 1) := by decide +kernel
theorem dL_law_419 : decode cL_law 419 = .ok (.iconst 2, 1) := by decide +kernel
theorem dL_law_420 : decode cL_law 420 = .ok (.iadd, 1) := by decide +kernel
theorem dL_law_421 : decode cL_law 421 = .ok (.iaload, 1) := by decide +kernel
theorem dL_law_422 : decode cL_law 422 = .ok (.aload_n 0, 1) := by decide +kernel
theorem dL_law_423 : decode cL_law 423 = .ok (.iload_n 3, 1) := by decide +kernel
theorem dL_law_424 : decode cL_law 424 = .ok (.iconst 3, 1) := by decide +kernel
theorem dL_law_425 : decode cL_law 425 = .ok (.iadd, 1) := by decide +kernel
theorem dL_law_426 : decode cL_law 426 = .ok (.iaload, 1) := by decide +kernel
theorem dL_law_427 : decode cL_law 427 = .ok (.aload_n 0, 1) := by decide +kernel
theorem dL_law_428 : decode cL_law 428 = .ok (.iload_n 3, 1) := by decide +kernel
theorem dL_law_429 : decode cL_law 429 = .ok (.iconst 4, 1) := by decide +kernel
theorem dL_law_430 : decode cL_law 430 = .ok (.iadd, 1) := by decide +kernel
theorem dL_law_431 : decode cL_law 431 = .ok (.iaload, 1) := by decide +kernel
theorem dL_law_432 : decode cL_law 432 = .ok (.invokevirtual 45, 3) := by decide +kernel
theorem dL_law_435 : decode cL_law 435 = .ok (.if_icmp .eq 324, 3) := by decide +kernel
theorem dL_law_438 : decode cL_law 438 = .ok (.iconst 0, 1) := by decide +kernel
theorem dL_law_439 : decode cL_law 439 = .ok (.ireturn, 1) := by decide +kernel
theorem dL_law_440 : decode cL_law 440 = .ok (.aload_n 1, 1) := by decide +kernel
theorem dL_law_441 : decode cL_law 441 = .ok (.aload_n 0, 1) := by decide +kernel
theorem dL_law_442 : decode cL_law 442 = .ok (.iload_n 3, 1) := by decide +kernel
theorem dL_law_443 : decode cL_law 443 = .ok (.iconst 1, 1) := by decide +kernel
theorem dL_law_444 : decode cL_law 444 = .ok (.iadd, 1) := by decide +kernel
theorem dL_law_445 : decode cL_law 445 = .ok (.iaload, 1) := by decide +kernel
theorem dL_law_446 : decode cL_law 446 = .ok (.aload_n 0, 1) := by decide +kernel
theorem dL_law_447 : decode cL_law 447 = .ok (.iload_n 3, 1) := by decide +kernel
theorem dL_law_448 : decode cL_law 448 = .ok (.iconst 2, 1) := by decide +kernel
theorem dL_law_449 : decode cL_law 449 = .ok (.iadd, 1) := by decide +kernel
theorem dL_law_450 : decode cL_law 450 = .ok (.iaload, 1) := by decide +kernel
theorem dL_law_451 : decode cL_law 451 = .ok (.invokevirtual 46, 3) := by decide +kernel
theorem dL_law_454 : decode cL_law 454 = .ok (.aload_n 2, 1) := by decide +kernel
theorem dL_law_455 : decode cL_law 455 = .ok (.aload_n 0, 1) := by decide +kernel
theorem dL_law_456 : decode cL_law 456 = .ok (.iload_n 3, 1) := by decide +kernel
theorem dL_law_457 : decode cL_law 457 = .ok (.iconst 1, 1) := by decide +kernel
theorem dL_law_458 : decode cL_law 458 = .ok (.iadd, 1) := by decide +kernel
theorem dL_law_459 : decode cL_law 459 = .ok (.iaload, 1) := by decide +kernel
theorem dL_law_460 : decode cL_law 460 = .ok (.aload_n 0, 1) := by decide +kernel
theorem dL_law_461 : decode cL_law 461 = .ok (.iload_n 3, 1) := by decide +kernel
theorem dL_law_462 : decode cL_law 462 = .ok (.iconst 2, 1) := by decide +kernel
theorem dL_law_463 : decode cL_law 463 = .ok (.iadd, 1) := by decide +kernel
theorem dL_law_464 : decode cL_law 464 = .ok (.iaload, 1) := by decide +kernel
theorem dL_law_465 : decode cL_law 465 = .ok (.invokevirtual 49, 3) := by decide +kernel
theorem dL_law_468 : decode cL_law 468 = .ok (.if_icmp .eq 291, 3) := by decide +kernel
theorem dL_law_471 : decode cL_law 471 = .ok (.iconst 0, 1) := by decide +kernel
theorem dL_law_472 : decode cL_law 472 = .ok (.ireturn, 1) := by decide +kernel
theorem dL_law_473 : decode cL_law 473 = .ok (.aload_n 1, 1) := by decide +kernel
theorem dL_law_474 : decode cL_law 474 = .ok (.aload_n 0, 1) := by decide +kernel
theorem dL_law_475 : decode cL_law 475 = .ok (.iload_n 3, 1) := by decide +kernel
theorem dL_law_476 : decode cL_law 476 = .ok (.iconst 1, 1) := by decide +kernel
theorem dL_law_477 : decode cL_law 477 = .ok (.iadd, 1) := by decide +kernel
theorem dL_law_478 : decode cL_law 478 = .ok (.iaload, 1) := by decide +kernel
theorem dL_law_479 : decode cL_law 479 = .ok (.invokevirtual 50, 3) := by decide +kernel
theorem dL_law_482 : decode cL_law 482 = .ok (.aload_n 2, 1) := by decide +kernel
theorem dL_law_483 : decode cL_law 483 = .ok (.aload_n 0, 1) := by decide +kernel
theorem dL_law_484 : decode cL_law 484 = .ok (.iload_n 3, 1) := by decide +kernel
theorem dL_law_485 : decode cL_law 485 = .ok (.iconst 1, 1) := by decide +kernel
theorem dL_law_486 : decode cL_law 486 = .ok (.iadd, 1) := by decide +kernel
theorem dL_law_487 : decode cL_law 487 = .ok (.iaload, 1) := by decide +kernel
theorem dL_law_488 : decode cL_law 488 = .ok (.invokevirtual 54, 3) := by decide +kernel
theorem dL_law_491 : decode cL_law 491 = .ok (.if_icmp .eq 268, 3) := by decide +kernel
theorem dL_law_494 : decode cL_law 494 = .ok (.iconst 0, 1) := by decide +kernel
theorem dL_law_495 : decode cL_law 495 = .ok (.ireturn, 1) := by decide +kernel
theorem dL_law_496 : decode cL_law 496 = .ok (.aload_n 1, 1) := by decide +kernel
theorem dL_law_497 : decode cL_law 497 = .ok (.aload_n 0, 1) := by decide +kernel
theorem dL_law_498 : decode cL_law 498 = .ok (.iload_n 3, 1) := by decide +kernel
theorem dL_law_499 : decode cL_law 499 = .ok (.iconst 1, 1) := by decide +kernel
theorem dL_law_500 : decode cL_law 500 = .ok (.iadd, 1) := by decide +kernel
theorem dL_law_501 : decode cL_law 501 = .ok (.iaload, 1) := by decide +kernel
theorem dL_law_502 : decode cL_law 502 = .ok (.aload_n 0, 1) := by decide +kernel
theorem dL_law_503 : decode cL_law 503 = .ok (.iload_n 3, 1) := by decide +kernel
theorem dL_law_504 : decode cL_law 504 = .ok (.iconst 2, 1) := by decide +kernel
theorem dL_law_505 : decode cL_law 505 = .ok (.iadd, 1) := by decide +kernel
theorem dL_law_506 : decode cL_law 506 = .ok (.iaload, 1) := by decide +kernel
theorem dL_law_507 : decode cL_law 507 = .ok (.invokevirtual 55, 3) := by decide +kernel
theorem dL_law_510 : decode cL_law 510 = .ok (.aload_n 2, 1) := by decide +kernel
theorem dL_law_511 : decode cL_law 511 = .ok (.aload_n 0, 1) := by decide +kernel
theorem dL_law_512 : decode cL_law 512 = .ok (.iload_n 3, 1) := by decide +kernel
theorem dL_law_513 : decode cL_law 513 = .ok (.iconst 1, 1) := by decide +kernel
theorem dL_law_514 : decode cL_law 514 = .ok (.iadd, 1) := by decide +kernel
theorem dL_law_515 : decode cL_law 515 = .ok (.iaload, 1) := by decide +kernel
theorem dL_law_516 : decode cL_law 516 = .ok (.aload_n 0, 1) := by decide +kernel
theorem dL_law_517 : decode cL_law 517 = .ok (.iload_n 3, 1) := by decide +kernel
theorem dL_law_518 : decode cL_law 518 = .ok (.iconst 2, 1) := by decide +kernel
theorem dL_law_519 : decode cL_law 519 = .ok (.iadd, 1) := by decide +kernel
theorem dL_law_520 : decode cL_law 520 = .ok (.iaload, 1) := by decide +kernel
theorem dL_law_521 : decode cL_law 521 = .ok (.invokevirtual 58, 3) := by decide +kernel
theorem dL_law_524 : decode cL_law 524 = .ok (.if_icmp .eq 235, 3) := by decide +kernel
theorem dL_law_527 : decode cL_law 527 = .ok (.iconst 0, 1) := by decide +kernel
theorem dL_law_528 : decode cL_law 528 = .ok (.ireturn, 1) := by decide +kernel
theorem dL_law_529 : decode cL_law 529 = .ok (.aload_n 1, 1) := by decide +kernel
theorem dL_law_530 : decode cL_law 530 = .ok (.invokevirtual 59, 3) := by decide +kernel
theorem dL_law_533 : decode cL_law 533 = .ok (.aload_n 2, 1) := by decide +kernel
theorem dL_law_534 : decode cL_law 534 = .ok (.invokevirtual 63, 3) := by decide +kernel
theorem dL_law_537 : decode cL_law 537 = .ok (.if_icmp .eq 222, 3) := by decide +kernel
theorem dL_law_540 : decode cL_law 540 = .ok (.iconst 0, 1) := by decide +kernel
theorem dL_law_541 : decode cL_law 541 = .ok (.ireturn, 1) := by decide +kernel
theorem dL_law_542 : decode cL_law 542 = .ok (.aload_n 1, 1) := by decide +kernel
theorem dL_law_543 : decode cL_law 543 = .ok (.invokevirtual 64, 3) := by decide +kernel
theorem dL_law_546 : decode cL_law 546 = .ok (.aload_n 2, 1) := by decide +kernel
theorem dL_law_547 : decode cL_law 547 = .ok (.invokevirtual 67, 3) := by decide +kernel
theorem dL_law_550 : decode cL_law 550 = .ok (.if_icmp .eq 209, 3) := by decide +kernel
theorem dL_law_553 : decode cL_law 553 = .ok (.iconst 0, 1) := by decide +kernel
theorem dL_law_554 : decode cL_law 554 = .ok (.ireturn, 1) := by decide +kernel
theorem dL_law_555 : decode cL_law 555 = .ok (.aload_n 1, 1) := by decide +kernel
theorem dL_law_556 : decode cL_law 556 = .ok (.aload_n 0, 1) := by decide +kernel
theorem dL_law_557 : decode cL_law 557 = .ok (.iload_n 3, 1) := by decide +kernel
theorem dL_law_558 : decode cL_law 558 = .ok (.iconst 1, 1) := by decide +kernel
theorem dL_law_559 : decode cL_law 559 = .ok (.iadd, 1) := by decide +kernel
theorem dL_law_560 : decode cL_law 560 = .ok (.iaload, 1) := by decide +kernel
theorem dL_law_561 : decode cL_law 561 = .ok (.aload_n 0, 1) := by decide +kernel
theorem dL_law_562 : decode cL_law 562 = .ok (.iload_n 3, 1) := by decide +kernel
theorem dL_law_563 : decode cL_law 563 = .ok (.iconst 2, 1) := by decide +kernel
theorem dL_law_564 : decode cL_law 564 = .ok (.iadd, 1) := by decide +kernel
theorem dL_law_565 : decode cL_law 565 = .ok (.iaload, 1) := by decide +kernel
theorem dL_law_566 : decode cL_law 566 = .ok (.invokevirtual 68, 3) := by decide +kernel
theorem dL_law_569 : decode cL_law 569 = .ok (.aload_n 2, 1) := by decide +kernel
theorem dL_law_570 : decode cL_law 570 = .ok (.aload_n 0, 1) := by decide +kernel
theorem dL_law_571 : decode cL_law 571 = .ok (.iload_n 3, 1) := by decide +kernel
theorem dL_law_572 : decode cL_law 572 = .ok (.iconst 1, 1) := by decide +kernel
theorem dL_law_573 : decode cL_law 573 = .ok (.iadd, 1) := by decide +kernel
theorem dL_law_574 : decode cL_law 574 = .ok (.iaload, 1) := by decide +kernel
theorem dL_law_575 : decode cL_law 575 = .ok (.aload_n 0, 1) := by decide +kernel
theorem dL_law_576 : decode cL_law 576 = .ok (.iload_n 3, 1) := by decide +kernel
theorem dL_law_577 : decode cL_law 577 = .ok (.iconst 2, 1) := by decide +kernel
theorem dL_law_578 : decode cL_law 578 = .ok (.iadd, 1) := by decide +kernel
theorem dL_law_579 : decode cL_law 579 = .ok (.iaload, 1) := by decide +kernel
theorem dL_law_580 : decode cL_law 580 = .ok (.invokevirtual 71, 3) := by decide +kernel
theorem dL_law_583 : decode cL_law 583 = .ok (.if_icmp .eq 176, 3) := by decide +kernel
theorem dL_law_586 : decode cL_law 586 = .ok (.iconst 0, 1) := by decide +kernel
theorem dL_law_587 : decode cL_law 587 = .ok (.ireturn, 1) := by decide +kernel
theorem dL_law_588 : decode cL_law 588 = .ok (.aload_n 1, 1) := by decide +kernel
theorem dL_law_589 : decode cL_law 589 = .ok (.aload_n 0, 1) := by decide +kernel
theorem dL_law_590 : decode cL_law 590 = .ok (.iload_n 3, 1) := by decide +kernel
theorem dL_law_591 : decode cL_law 591 = .ok (.iconst 1, 1) := by decide +kernel
theorem dL_law_592 : decode cL_law 592 = .ok (.iadd, 1) := by decide +kernel
theorem dL_law_593 : decode cL_law 593 = .ok (.iaload, 1) := by decide +kernel
theorem dL_law_594 : decode cL_law 594 = .ok (.invokevirtual 72, 3) := by decide +kernel
theorem dL_law_597 : decode cL_law 597 = .ok (.aload_n 2, 1) := by decide +kernel
theorem dL_law_598 : decode cL_law 598 = .ok (.aload_n 0, 1) := by decide +kernel
theorem dL_law_599 : decode cL_law 599 = .ok (.iload_n 3, 1) := by decide +kernel
theorem dL_law_600 : decode cL_law 600 = .ok (.iconst 1, 1) := by decide +kernel
theorem dL_law_601 : decode cL_law 601 = .ok (.iadd, 1) := by decide +kernel
theorem dL_law_602 : decode cL_law 602 = .ok (.iaload, 1) := by decide +kernel
theorem dL_law_603 : decode cL_law 603 = .ok (.invokevirtual 75, 3) := by decide +kernel
theorem dL_law_606 : decode cL_law 606 = .ok (.if_icmp .eq 153, 3) := by decide +kernel
theorem dL_law_609 : decode cL_law 609 = .ok (.iconst 0, 1) := by decide +kernel
theorem dL_law_610 : decode cL_law 610 = .ok (.ireturn, 1) := by decide +kernel
theorem dL_law_611 : decode cL_law 611 = .ok (.aload_n 1, 1) := by decide +kernel
theorem dL_law_612 : decode cL_law 612 = .ok (.invokevirtual 76, 3) := by decide +kernel
theorem dL_law_615 : decode cL_law 615 = .ok (.aload_n 2, 1) := by decide +kernel
theorem dL_law_616 : decode cL_law 616 = .ok (.invokevirtual 79, 3) := by decide +kernel
theorem dL_law_619 : decode cL_law 619 = .ok (.if_icmp .eq 140, 3) := by decide +kernel
theorem dL_law_622 : decode cL_law 622 = .ok (.iconst 0, 1) := by decide +kernel
theorem dL_law_623 : decode cL_law 623 = .ok (.ireturn, 1) := by decide +kernel
theorem dL_law_624 : decode cL_law 624 = .ok (.aload_n 1, 1) := by decide +kernel
theorem dL_law_625 : decode cL_law 625 = .ok (.aload_n 0, 1) := by decide +kernel
theorem dL_law_626 : decode cL_law 626 = .ok (.iload_n 3, 1) := by decide +kernel
theorem dL_law_627 : decode cL_law 627 = .ok (.iconst 1, 1) := by decide +kernel
theorem dL_law_628 : decode cL_law 628 = .ok (.iadd, 1) := by decide +kernel
theorem dL_law_629 : decode cL_law 629 = .ok (.iaload, 1) := by decide +kernel
theorem dL_law_630 : decode cL_law 630 = .ok (.invokevirtual 80, 3) := by decide +kernel
theorem dL_law_633 : decode cL_law 633 = .ok (.aload_n 2, 1) := by decide +kernel
theorem dL_law_634 : decode cL_law 634 = .ok (.aload_n 0, 1) := by decide +kernel
theorem dL_law_635 : decode cL_law 635 = .ok (.iload_n 3, 1) := by decide +kernel
theorem dL_law_636 : decode cL_law 636 = .ok (.iconst 1, 1) := by decide +kernel
theorem dL_law_637 : decode cL_law 637 = .ok (.iadd, 1) := by decide +kernel
theorem dL_law_638 : decode cL_law 638 = .ok (.iaload, 1) := by decide +kernel
theorem dL_law_639 : decode cL_law 639 = .ok (.invokevirtual 83, 3) := by decide +kernel
theorem dL_law_642 : decode cL_law 642 = .ok (.if_icmp .eq 117, 3) := by decide +kernel
theorem dL_law_645 : decode cL_law 645 = .ok (.iconst 0, 1) := by decide +kernel
theorem dL_law_646 : decode cL_law 646 = .ok (.ireturn, 1) := by decide +kernel
theorem dL_law_647 : decode cL_law 647 = .ok (.aload_n 1, 1) := by decide +kernel
theorem dL_law_648 : decode cL_law 648 = .ok (.invokevirtual 84, 3) := by decide +kernel
theorem dL_law_651 : decode cL_law 651 = .ok (.aload_n 2, 1) := by decide +kernel
theorem dL_law_652 : decode cL_law 652 = .ok (.invokevirtual 87, 3) := by decide +kernel
theorem dL_law_655 : decode cL_law 655 = .ok (.if_icmp .eq 104, 3) := by decide +kernel
theorem dL_law_658 : decode cL_law 658 = .ok (.iconst 0, 1) := by decide +kernel
theorem dL_law_659 : decode cL_law 659 = .ok (.ireturn, 1) := by decide +kernel
theorem dL_law_660 : decode cL_law 660 = .ok (.aload_n 1, 1) := by decide +kernel
theorem dL_law_661 : decode cL_law 661 = .ok (.aload_n 0, 1) := by decide +kernel
theorem dL_law_662 : decode cL_law 662 = .ok (.iload_n 3, 1) := by decide +kernel
theorem dL_law_663 : decode cL_law 663 = .ok (.iconst 1, 1) := by decide +kernel
theorem dL_law_664 : decode cL_law 664 = .ok (.iadd, 1) := by decide +kernel
theorem dL_law_665 : decode cL_law 665 = .ok (.iaload, 1) := by decide +kernel
theorem dL_law_666 : decode cL_law 666 = .ok (.invokevirtual 88, 3) := by decide +kernel
theorem dL_law_669 : decode cL_law 669 = .ok (.aload_n 2, 1) := by decide +kernel
theorem dL_law_670 : decode cL_law 670 = .ok (.aload_n 0, 1) := by decide +kernel
theorem dL_law_671 : decode cL_law 671 = .ok (.iload_n 3, 1) := by decide +kernel
theorem dL_law_672 : decode cL_law 672 = .ok (.iconst 1, 1) := by decide +kernel
theorem dL_law_673 : decode cL_law 673 = .ok (.iadd, 1) := by decide +kernel
theorem dL_law_674 : decode cL_law 674 = .ok (.iaload, 1) := by decide +kernel
theorem dL_law_675 : decode cL_law 675 = .ok (.invokevirtual 91, 3) := by decide +kernel
theorem dL_law_678 : decode cL_law 678 = .ok (.if_icmp .eq 81, 3) := by decide +kernel
theorem dL_law_681 : decode cL_law 681 = .ok (.iconst 0, 1) := by decide +kernel
theorem dL_law_682 : decode cL_law 682 = .ok (.ireturn, 1) := by decide +kernel
theorem dL_law_683 : decode cL_law 683 = .ok (.aload_n 1, 1) := by decide +kernel
theorem dL_law_684 : decode cL_law 684 = .ok (.aload_n 0, 1) := by decide +kernel
theorem dL_law_685 : decode cL_law 685 = .ok (.iload_n 3, 1) := by decide +kernel
theorem dL_law_686 : decode cL_law 686 = .ok (.iconst 1, 1) := by decide +kernel
theorem dL_law_687 : decode cL_law 687 = .ok (.iadd, 1) := by decide +kernel
theorem dL_law_688 : decode cL_law 688 = .ok (.iaload, 1) := by decide +kernel
theorem dL_law_689 : decode cL_law 689 = .ok (.i2l, 1) := by decide +kernel
theorem dL_law_690 : decode cL_law 690 = .ok (.bipush 32, 2) := by decide +kernel
theorem dL_law_692 : decode cL_law 692 = .ok (.lshl, 1) := by decide +kernel
theorem dL_law_693 : decode cL_law 693 = .ok (.aload_n 0, 1) := by decide +kernel
theorem dL_law_694 : decode cL_law 694 = .ok (.iload_n 3, 1) := by decide +kernel
theorem dL_law_695 : decode cL_law 695 = .ok (.iconst 2, 1) := by decide +kernel
theorem dL_law_696 : decode cL_law 696 = .ok (.iadd, 1) := by decide +kernel
theorem dL_law_697 : decode cL_law 697 = .ok (.iaload, 1) := by decide +kernel
theorem dL_law_698 : decode cL_law 698 = .ok (.i2l, 1) := by decide +kernel
theorem dL_law_699 : decode cL_law 699 = .ok (.ldc2_w 92, 3) := by decide +kernel
theorem dL_law_702 : decode cL_law 702 = .ok (.land, 1) := by decide +kernel
theorem dL_law_703 : decode cL_law 703 = .ok (.lor, 1) := by decide +kernel
theorem dL_law_704 : decode cL_law 704 = .ok (.invokevirtual 94, 3) := by decide +kernel
theorem dL_law_707 : decode cL_law 707 = .ok (.aload_n 2, 1) := by decide +kernel
theorem dL_law_708 : decode cL_law 708 = .ok (.aload_n 0, 1) := by decide +kernel
theorem dL_law_709 : decode cL_law 709 = .ok (.iload_n 3, 1) := by decide +kernel
theorem dL_law_710 : decode cL_law 710 = .ok (.iconst 1, 1) := by decide +kernel
theorem dL_law_711 : decode cL_law 711 = .ok (.iadd, 1) := by decide +kernel
theorem dL_law_712 : decode cL_law 712 = .ok (.iaload, 1) := by decide +kernel
theorem dL_law_713 : decode cL_law 713 = .ok (.i2l, 1) := by decide +kernel
theorem dL_law_714 : decode cL_law 714 = .ok (.bipush 32, 2) := by decide +kernel
theorem dL_law_716 : decode cL_law 716 = .ok (.lshl, 1) := by decide +kernel
theorem dL_law_717 : decode cL_law 717 = .ok (.aload_n 0, 1) := by decide +kernel
theorem dL_law_718 : decode cL_law 718 = .ok (.iload_n 3, 1) := by decide +kernel
theorem dL_law_719 : decode cL_law 719 = .ok (.iconst 2, 1) := by decide +kernel
theorem dL_law_720 : decode cL_law 720 = .ok (.iadd, 1) := by decide +kernel
theorem dL_law_721 : decode cL_law 721 = .ok (.iaload, 1) := by decide +kernel
theorem dL_law_722 : decode cL_law 722 = .ok (.i2l, 1) := by decide +kernel
theorem dL_law_723 : decode cL_law 723 = .ok (.ldc2_w 92, 3) := by decide +kernel
theorem dL_law_726 : decode cL_law 726 = .ok (.land, 1) := by decide +kernel
theorem dL_law_727 : decode cL_law 727 = .ok (.lor, 1) := by decide +kernel
theorem dL_law_728 : decode cL_law 728 = .ok (.invokevirtual 98, 3) := by decide +kernel
theorem dL_law_731 : decode cL_law 731 = .ok (.if_icmp .eq 28, 3) := by decide +kernel
theorem dL_law_734 : decode cL_law 734 = .ok (.iconst 0, 1) := by decide +kernel
theorem dL_law_735 : decode cL_law 735 = .ok (.ireturn, 1) := by decide +kernel
theorem dL_law_736 : decode cL_law 736 = .ok (.aload_n 1, 1) := by decide +kernel
theorem dL_law_737 : decode cL_law 737 = .ok (.aload_n 0, 1) := by decide +kernel
theorem dL_law_738 : decode cL_law 738 = .ok (.iload_n 3, 1) := by decide +kernel
theorem dL_law_739 : decode cL_law 739 = .ok (.iconst 1, 1) := by decide +kernel
theorem dL_law_740 : decode cL_law 740 = .ok (.iadd, 1) := by decide +kernel
theorem dL_law_741 : decode cL_law 741 = .ok (.iaload, 1) := by decide +kernel
theorem dL_law_742 : decode cL_law 742 = .ok (.invokevirtual 99, 3) := by decide +kernel
theorem dL_law_745 : decode cL_law 745 = .ok (.aload_n 2, 1) := by decide +kernel
theorem dL_law_746 : decode cL_law 746 = .ok (.aload_n 0, 1) := by decide +kernel
theorem dL_law_747 : decode cL_law 747 = .ok (.iload_n 3, 1) := by decide +kernel
theorem dL_law_748 : decode cL_law 748 = .ok (.iconst 1, 1) := by decide +kernel
theorem dL_law_749 : decode cL_law 749 = .ok (.iadd, 1) := by decide +kernel
theorem dL_law_750 : decode cL_law 750 = .ok (.iaload, 1) := by decide +kernel
theorem dL_law_751 : decode cL_law 751 = .ok (.invokevirtual 102, 3) := by decide +kernel
theorem dL_law_754 : decode cL_law 754 = .ok (.if_icmp .eq 5, 3) := by decide +kernel
theorem dL_law_757 : decode cL_law 757 = .ok (.iconst 0, 1) := by decide +kernel
theorem dL_law_758 : decode cL_law 758 = .ok (.ireturn, 1) := by decide +kernel
theorem dL_law_759 : decode cL_law 759 = .ok (.iinc 3 6, 3) := by decide +kernel
theorem dL_law_762 : decode cL_law 762 = .ok (.goto (-744), 3) := by decide +kernel
theorem dL_law_765 : decode cL_law 765 = .ok (.iconst 1, 1) := by decide +kernel
theorem dL_law_766 : decode cL_law 766 = .ok (.ireturn, 1) := by decide +kernel
end
section
/-! A lighter judgement over W. The heap is a list of shapes S (int row of n places; row of references; object of class number ci with int and
reference slots) and the ints in it σ (cell, place); references are the cells' numbers in S; ad gives their addresses, cA the rows' classes. -/
abbrev zSh : Type := Nat ⊕ (List (Option Nat) ⊕ (Nat × List (Option (Option Nat))))
abbrev zSt : Type := Nat → Nat → Int32
/-- a method: name, bytes, locals, return type, depth, cells, slots -/
abbrev zM : Type := MethodName × ByteArray × Nat × Option FieldType × Nat × Nat × Nat
abbrev zY (μ : zM) : MethodName := μ.1
abbrev zB (μ : zM) : ByteArray := μ.2.1
abbrev zL (μ : zM) : Nat := μ.2.2.1
abbrev zR (μ : zM) : Option FieldType := μ.2.2.2.1
abbrev zDp (μ : zM) : Nat := μ.2.2.2.2.1
abbrev zMc (μ : zM) : Nat := μ.2.2.2.2.2.1
abbrev zMs (μ : zM) : Nat := μ.2.2.2.2.2.2
def zRm (μ : zM) : Room := { frames := zDp μ, cells := zMc μ, slots := zMs μ, locals := 36 * zDp μ }
def zcl : List vw_C := [(RX0, TX0, 14), (RX1, TX1, 10), (RX2, TX2, 7), (RX3, TX3, 4), (RX4, TX4, 3), (RX5, TX5, 10), (RX6, TX6, 6), (RX7, TX7, 28)]
def zwd : List Cond := lw_tbl.filter goodWord
theorem zwd_lw {w : Cond} (h : w ∈ zwd) : w ∈ lw_tbl := (List.mem_filter.mp h).1
theorem zwd_of {w : Cond} (i : Nat) (h : lw_tbl[i]? = some w) (hg : goodWord w = true) : w ∈ zwd := List.mem_filter.mpr ⟨List.mem_of_getElem? h, hg⟩
theorem zwd_good : GoodIn zwd zwd := fun w h => ⟨h, good_of_word (List.mem_filter.mp h).2⟩
def zC (ad : Nat → Nat) : Value → Value
  | .ref k => .ref (ad k)
  | v => v
theorem zC_cat (ad : Nat → Nat) (v : Value) : (zC ad v).category = v.category := by cases v <;> rfl
def zF (ad : Nat → Nat) (f : Nat → Int32) (j : Nat) : Option (Option Nat) → Value
  | none => .int (f j)
  | some r => va_rf (r.map ad)
def zRow (ad : Nat → Nat) (rs : List (Option Nat)) (j : Nat) : Option Nat := ((rs[j]?).getD none).map ad
def zE (ad : Nat → Nat) (cA : Nat → ClassId) (σ : zSt) (i : Nat) : zSh → va_E
  | .inl n => .inl (cA i, n, .inl (σ i))
  | .inr (.inl rs) => .inl (cA i, rs.length, .inr (.inr (.inr (.inr (zRow ad rs)))))
  | .inr (.inr (ci, fs)) => .inr (ci, fs.mapIdx (zF ad (σ i)))
def zWd (ad : Nat → Nat) (cA : Nat → ClassId) (S : List zSh) (σ : zSt) : va_W := S.mapIdx fun i sh => (ad i, zE ad cA σ i sh)
theorem zWd_at {ad : Nat → Nat} {cA : Nat → ClassId} {S : List zSh} {σ : zSt} {i : Nat} {sh : zSh} (h : S[i]? = some sh) : (zWd ad cA S σ)[i]? = some (ad i, zE ad cA σ i sh) := by simp [zWd, List.getElem?_mapIdx, h]
/-- row c becomes f -/
def zrow (σ : zSt) (c : Nat) (f : Nat → Int32) : zSt := fun c' => if c' = c then f else σ c'
def zup (σ : zSt) (c i : Nat) (v : Int32) : zSt := zrow σ c (upd (σ c) i v)
theorem zrow_s {σ : zSt} {c : Nat} {f : Nat → Int32} : zrow σ c f c = f := if_pos rfl
theorem zrow_n {σ : zSt} {c c' : Nat} {f : Nat → Int32} (h : c' ≠ c) : zrow σ c f c' = σ c' := if_neg h
theorem zrow_id (σ : zSt) (c : Nat) : zrow σ c (σ c) = σ := by
  funext c'
  by_cases h : c' = c
  · rw [h, zrow_s]
  · rw [zrow_n h]
theorem zrow_zrow (σ : zSt) (c : Nat) (f g : Nat → Int32) : zrow (zrow σ c f) c g = zrow σ c g := by
  funext c'
  by_cases h : c' = c
  · rw [h, zrow_s, zrow_s]
  · rw [zrow_n h, zrow_n h, zrow_n h]
theorem zE_n {ad : Nat → Nat} {cA : Nat → ClassId} {σ : zSt} {i c : Nat} {f : Nat → Int32} (h : i ≠ c) (sh : zSh) : zE ad cA (zrow σ c f) i sh = zE ad cA σ i sh := by
  rcases sh with n | rs | ⟨ci, fs⟩
  · simp only [zE, zrow_n h]
  · rfl
  · simp only [zE, zrow_n h]
theorem zWd_row {ad : Nat → Nat} {cA : Nat → ClassId} {S : List zSh} {σ : zSt} {i : Nat} {sh : zSh} {f : Nat → Int32} (h : S[i]? = some sh) : (zWd ad cA S σ).set i (ad i, zE ad cA (zrow σ i f) i sh) = zWd ad cA S (zrow σ i f) := by
  apply List.ext_getElem?
  intro j
  have hi : i < S.length := (List.getElem?_eq_some_iff.mp h).1
  have hl : (zWd ad cA S σ).length = S.length := by simp [zWd]
  by_cases hj : j = i
  · subst hj
    rw [List.getElem?_set_self (by rw [hl]; exact hi), zWd_at h]
  · rw [List.getElem?_set_ne (fun q => hj q.symm)]
    simp only [zWd, List.getElem?_mapIdx]
    cases hq : S[j]? with
    | none => rfl
    | some t => simp only [Option.map_some, zE_n hj]
theorem zWd_shape {ad : Nat → Nat} {cA : Nat → ClassId} {S : List zSh} {σ : zSt} {i : Nat} {sh sh' : zSh} (h : S[i]? = some sh) : (zWd ad cA S σ).set i (ad i, zE ad cA σ i sh') = zWd ad cA (S.set i sh') σ := by
  apply List.ext_getElem?
  intro j
  have hi : i < S.length := (List.getElem?_eq_some_iff.mp h).1
  have hl : (zWd ad cA S σ).length = S.length := by simp [zWd]
  by_cases hj : j = i
  · subst hj
    rw [List.getElem?_set_self (by rw [hl]; exact hi), zWd_at (List.getElem?_set_self hi)]
  · rw [List.getElem?_set_ne (fun q => hj q.symm)]
    simp only [zWd, List.getElem?_mapIdx]
    rw [List.getElem?_set_ne (fun q => hj q.symm)]
def zTy : zSh → Option FieldType
  | .inl _ => some .int
  | .inr (.inl _) => some (.object RX4)
  | _ => none
def zHp (D : va_G) (h0 : Nat) (ad : Nat → Nat) (cA : Nat → ClassId) (S : List zSh) (σ : zSt) (U : State) (H : Heap) : Prop :=
  va_P D zcl (zWd ad cA S σ) H ∧ va_D (fun q => h0 ≤ q) (zWd ad cA S σ) ∧ va_K D zcl [] U ∧ ∀ (i : Nat) (sh : zSh) (ty : FieldType), S[i]? = some sh → zTy sh = some ty → ArrOfT U (cA i) ty ∧ va_RA U (cA i) ty
theorem zHp.K1 {D : va_G} {h0 : Nat} {ad : Nat → Nat} {cA : Nat → ClassId} {S : List zSh} {σ : zSt} {U : State} {H : Heap} (h : zHp D h0 ad cA S σ U H) {i : Nat} {sh : zSh} {ty : FieldType} (hs : S[i]? = some sh) (ht : zTy sh = some ty) : va_K D zcl [(cA i, ty)] U := by
  refine ⟨h.2.2.1.1, fun k q hk => ?_⟩
  cases k with
  | zero => cases hk; exact h.2.2.2 i sh ty hs ht
  | succ k => simp at hk
theorem zHp.K2 {D : va_G} {h0 : Nat} {ad : Nat → Nat} {cA : Nat → ClassId} {S : List zSh} {σ : zSt} {U : State} {H : Heap} (h : zHp D h0 ad cA S σ U H) {i j : Nat} {sh sh' : zSh} {ty ty' : FieldType} (hs : S[i]? = some sh) (ht : zTy sh = some ty) (hs' : S[j]? = some sh') (ht' : zTy sh' = some ty') : va_K D zcl [(cA i, ty), (cA j, ty')] U := by
  have := (h.K1 hs ht).app (h.K1 hs' ht')
  exact this
theorem zHp.moved {D : va_G} {h0 : Nat} {ad : Nat → Nat} {cA : Nat → ClassId} {S : List zSh} {σ : zSt} {u U : State} {H : Heap} (hvm : u.vm.Alike U.vm) (h : zHp D h0 ad cA S σ u H) : zHp D h0 ad cA S σ U H :=
  ⟨h.1, h.2.1, va_K.moved hvm h.2.2.1, fun i sh ty h1 h2 => ⟨arrOfT_moved hvm (h.2.2.2 i sh ty h1 h2).1, (h.2.2.2 i sh ty h1 h2).2.moved hvm⟩⟩
/-- the words that are not kept by warming as the others are -/
def znest : List (String × Nat × MethodName) := [(RX6, 54, yX4_init), (RX0, 106, yX6_bit), (RX1, 74, yX6_bit), (RX1, 84, yX6_holds), (RX2, 52, yX6_holds), (RX2, 74, yX6_bit), (RX3, 40, yX6_bit), (RX3, 49, yX6_holds), (RX5, 49, yX6_bit), (RX5, 62, yX6_holds)]
def zN (U : State) : Prop := (∀ q ∈ znest, va_Nw (.methodLinkNest q.1 q.2.1 q.2.2 RX6) U) ∧ va_AO RX4 U
theorem zN.warm {s U : State} (hW : s.WarmedH U.vm) (h : zN s) : zN U := ⟨fun q hq => va_Nw.warmM hW (h.1 q hq), va_AO.moved hW.alike h.2⟩
def zCx (p : Program) (s : State) (m : MethodId) (args : Array Value) (meth : Method) (c : Code) (μ : zM) (h0 : Nat) : Prop :=
  p.tables.exec = Jvm.exec ∧ c.code = zB μ ∧ c.maxLocals = zL μ ∧ meth.sig.returnType = zR μ ∧ meth.locks = false ∧ s.vm.findClass (zY μ).cls = some m.cls ∧ (∀ w ∈ zwd, w.before args s = true) ∧ zN s ∧ h0 ≤ s.heap.size ∧ meth.name = (zY μ).name
def zLs (ad : Nat → Nat) (lsA : Array Slot) (nL : Nat) (ls : List (Option Value)) : Prop := lsA.size = nL ∧ lv_wf lsA ∧ ls.length = nL ∧ ∀ (i : Nat) (v : Value), ls[i]? = some (some v) → lsA[i]? = some (.val (zC ad v))
def zSc (sc : Option (Nat × (Nat → Int32))) (ad : Nat → Nat) (s : State) (h0 : Nat) : Prop := ∀ (L : Nat) (xs : Nat → Int32), sc = some (L, xs) → va_X (ad 999) L xs s s.heap ∧ ad 999 < h0
abbrev zZt : Type := List Frame → Array Value → State → va_G → Nat → (Nat → Nat) → (Nat → ClassId) → Nat → State → Prop
def zA (Z : zZt) (μ : zM) (sc : Option (Nat × (Nat → Int32))) (k n pc : Nat) (ls : List (Option Value)) (st : List Value) (S : List zSh) (σ : zSt) : Prop :=
  ∀ (p : Program) (l : Launch) (e : Env) (s : State) (m : MethodId) (args : Array Value) (below : List Frame) (meth : Method) (c : Code) (D : va_G) (h0 : Nat) (ad0 : Nat → Nat) (cA0 : Nat → ClassId) (n0 : Nat) (ad : Nat → Nat) (cA : Nat → ClassId) (H : Heap) (locs : List Loc) (lsA : Array Slot),
    zCx p s m args meth c μ h0 → zSc sc ad s h0 → (∀ i : Nat, i < n0 ∨ 999 ≤ i → ad i = ad0 i ∧ cA i = cA0 i) → n0 ≤ S.length → zHp D h0 ad cA S σ s H → va_S (fun q => h0 ≤ q) s.heap H locs → zLs ad lsA (zL μ) ls →
    W p l e (zRm μ) s m args below meth c H locs k n (Z below args s D h0 ad0 cA0 n0) (F0 m pc lsA (st.map (zC ad)))
def zQc (D : va_G) (h0 : Nat) (ad : Nat → Nat) (cA : Nat → ClassId) (n0 : Nat) (Q : Option Value → List zSh → zSt → Prop) : Array Value → State → Outcome → State → Prop := fun _ st oc t =>
  (∃ (v : Option Value) (S' : List zSh) (σ' : zSt) (ad' : Nat → Nat) (cA' : Nat → ClassId), (∀ i : Nat, i < n0 ∨ 999 ≤ i → ad' i = ad i ∧ cA' i = cA i) ∧ n0 ≤ S'.length ∧ oc = .returned (v.map (zC ad')) ∧ Q v S' σ' ∧ zHp D h0 ad' cA' S' σ' t t.heap) ∧ va_F (fun q => h0 ≤ q) st t
def zZ (μ : zM) (Q : Option Value → List zSh → zSt → Prop) : zZt := fun below args s D h0 ad0 cA0 n0 => MQ below (zQc D h0 ad0 cA0 n0 Q) args s (zMc μ) (zMs μ) (fun q => h0 ≤ q)

section ZA
variable {Z : zZt} {μ : zM} {sc : Option (Nat × (Nat → Int32))} {k n pc : Nat} {ls : List (Option Value)} {st : List Value} {S : List zSh} {σ : zSt}
theorem za_iadd {x y : Int32} (d : decode (zB μ) pc = .ok (.iadd, 1)) (kk : zA Z μ sc k n (pc + 1) ls (.int (x + y) :: st) S σ) : zA Z μ sc k n pc ls (.int y :: .int x :: st) S σ := by
  intro p l e s m args below meth c D h0 ad0 cA0 n0 ad cA H locs lsA hC hX hag hn0 hH hS hl
  exact lv_iadd hC.1 hC.2.1 d (kk p l e s m args below meth c D h0 ad0 cA0 n0 ad cA H locs lsA hC hX hag hn0 hH hS hl)
theorem za_isub {x y : Int32} (d : decode (zB μ) pc = .ok (.isub, 1)) (kk : zA Z μ sc k n (pc + 1) ls (.int (x - y) :: st) S σ) : zA Z μ sc k n pc ls (.int y :: .int x :: st) S σ := by
  intro p l e s m args below meth c D h0 ad0 cA0 n0 ad cA H locs lsA hC hX hag hn0 hH hS hl
  exact lv_isub hC.1 hC.2.1 d (kk p l e s m args below meth c D h0 ad0 cA0 n0 ad cA H locs lsA hC hX hag hn0 hH hS hl)
theorem za_imul {x y : Int32} (d : decode (zB μ) pc = .ok (.imul, 1)) (kk : zA Z μ sc k n (pc + 1) ls (.int (x * y) :: st) S σ) : zA Z μ sc k n pc ls (.int y :: .int x :: st) S σ := by
  intro p l e s m args below meth c D h0 ad0 cA0 n0 ad cA H locs lsA hC hX hag hn0 hH hS hl
  exact lv_imul hC.1 hC.2.1 d (kk p l e s m args below meth c D h0 ad0 cA0 n0 ad cA H locs lsA hC hX hag hn0 hH hS hl)
theorem za_iand {x y : Int32} (d : decode (zB μ) pc = .ok (.iand, 1)) (kk : zA Z μ sc k n (pc + 1) ls (.int (x &&& y) :: st) S σ) : zA Z μ sc k n pc ls (.int y :: .int x :: st) S σ := by
  intro p l e s m args below meth c D h0 ad0 cA0 n0 ad cA H locs lsA hC hX hag hn0 hH hS hl
  exact lv_iand hC.1 hC.2.1 d (kk p l e s m args below meth c D h0 ad0 cA0 n0 ad cA H locs lsA hC hX hag hn0 hH hS hl)
theorem za_ior {x y : Int32} (d : decode (zB μ) pc = .ok (.ior, 1)) (kk : zA Z μ sc k n (pc + 1) ls (.int (x ||| y) :: st) S σ) : zA Z μ sc k n pc ls (.int y :: .int x :: st) S σ := by
  intro p l e s m args below meth c D h0 ad0 cA0 n0 ad cA H locs lsA hC hX hag hn0 hH hS hl
  exact lv_ior hC.1 hC.2.1 d (kk p l e s m args below meth c D h0 ad0 cA0 n0 ad cA H locs lsA hC hX hag hn0 hH hS hl)
theorem za_ixor {x y : Int32} (d : decode (zB μ) pc = .ok (.ixor, 1)) (kk : zA Z μ sc k n (pc + 1) ls (.int (x ^^^ y) :: st) S σ) : zA Z μ sc k n pc ls (.int y :: .int x :: st) S σ := by
  intro p l e s m args below meth c D h0 ad0 cA0 n0 ad cA H locs lsA hC hX hag hn0 hH hS hl
  exact lv_ixor hC.1 hC.2.1 d (kk p l e s m args below meth c D h0 ad0 cA0 n0 ad cA H locs lsA hC hX hag hn0 hH hS hl)
theorem za_idiv {x y : Int32} (d : decode (zB μ) pc = .ok (.idiv, 1)) (hne : ¬ y = 0) (kk : zA Z μ sc k n (pc + 1) ls (.int (x / y) :: st) S σ) : zA Z μ sc k n pc ls (.int y :: .int x :: st) S σ := by
  intro p l e s m args below meth c D h0 ad0 cA0 n0 ad cA H locs lsA hC hX hag hn0 hH hS hl
  exact lv_idiv hC.1 hC.2.1 d hne (kk p l e s m args below meth c D h0 ad0 cA0 n0 ad cA H locs lsA hC hX hag hn0 hH hS hl)
theorem za_irem {x y : Int32} (d : decode (zB μ) pc = .ok (.irem, 1)) (hne : ¬ y = 0) (kk : zA Z μ sc k n (pc + 1) ls (.int (x - x / y * y) :: st) S σ) : zA Z μ sc k n pc ls (.int y :: .int x :: st) S σ := by
  intro p l e s m args below meth c D h0 ad0 cA0 n0 ad cA H locs lsA hC hX hag hn0 hH hS hl
  exact lv_irem hC.1 hC.2.1 d hne (kk p l e s m args below meth c D h0 ad0 cA0 n0 ad cA H locs lsA hC hX hag hn0 hH hS hl)
theorem za_ishl {x y : Int32} (d : decode (zB μ) pc = .ok (.ishl, 1)) (kk : zA Z μ sc k n (pc + 1) ls (.int (x <<< (y &&& 31)) :: st) S σ) : zA Z μ sc k n pc ls (.int y :: .int x :: st) S σ := by
  intro p l e s m args below meth c D h0 ad0 cA0 n0 ad cA H locs lsA hC hX hag hn0 hH hS hl
  exact lv_ishl hC.1 hC.2.1 d (kk p l e s m args below meth c D h0 ad0 cA0 n0 ad cA H locs lsA hC hX hag hn0 hH hS hl)
theorem za_ishr {x y : Int32} (d : decode (zB μ) pc = .ok (.ishr, 1)) (kk : zA Z μ sc k n (pc + 1) ls (.int (x >>> (y &&& 31)) :: st) S σ) : zA Z μ sc k n pc ls (.int y :: .int x :: st) S σ := by
  intro p l e s m args below meth c D h0 ad0 cA0 n0 ad cA H locs lsA hC hX hag hn0 hH hS hl
  exact lv_ishr hC.1 hC.2.1 d (kk p l e s m args below meth c D h0 ad0 cA0 n0 ad cA H locs lsA hC hX hag hn0 hH hS hl)
theorem za_iushr {x y : Int32} (d : decode (zB μ) pc = .ok (.iushr, 1)) (kk : zA Z μ sc k n (pc + 1) ls (.int (x.toUInt32 >>> (y.toUInt32 &&& Int32.toUInt32 31)).toInt32 :: st) S σ) : zA Z μ sc k n pc ls (.int y :: .int x :: st) S σ := by
  intro p l e s m args below meth c D h0 ad0 cA0 n0 ad cA H locs lsA hC hX hag hn0 hH hS hl
  exact lv_iushr hC.1 hC.2.1 d rfl (kk p l e s m args below meth c D h0 ad0 cA0 n0 ad cA H locs lsA hC hX hag hn0 hH hS hl)
theorem za_ladd {x y : Int64} (d : decode (zB μ) pc = .ok (.ladd, 1)) (kk : zA Z μ sc k n (pc + 1) ls (.long (x + y) :: st) S σ) : zA Z μ sc k n pc ls (.long y :: .long x :: st) S σ := by
  intro p l e s m args below meth c D h0 ad0 cA0 n0 ad cA H locs lsA hC hX hag hn0 hH hS hl
  exact lv_ladd hC.1 hC.2.1 d (kk p l e s m args below meth c D h0 ad0 cA0 n0 ad cA H locs lsA hC hX hag hn0 hH hS hl)
theorem za_lsub {x y : Int64} (d : decode (zB μ) pc = .ok (.lsub, 1)) (kk : zA Z μ sc k n (pc + 1) ls (.long (x - y) :: st) S σ) : zA Z μ sc k n pc ls (.long y :: .long x :: st) S σ := by
  intro p l e s m args below meth c D h0 ad0 cA0 n0 ad cA H locs lsA hC hX hag hn0 hH hS hl
  exact lv_lsub hC.1 hC.2.1 d (kk p l e s m args below meth c D h0 ad0 cA0 n0 ad cA H locs lsA hC hX hag hn0 hH hS hl)
theorem za_land {x y : Int64} (d : decode (zB μ) pc = .ok (.land, 1)) (kk : zA Z μ sc k n (pc + 1) ls (.long (x &&& y) :: st) S σ) : zA Z μ sc k n pc ls (.long y :: .long x :: st) S σ := by
  intro p l e s m args below meth c D h0 ad0 cA0 n0 ad cA H locs lsA hC hX hag hn0 hH hS hl
  exact lv_land hC.1 hC.2.1 d (kk p l e s m args below meth c D h0 ad0 cA0 n0 ad cA H locs lsA hC hX hag hn0 hH hS hl)
theorem za_lor {x y : Int64} (d : decode (zB μ) pc = .ok (.lor, 1)) (kk : zA Z μ sc k n (pc + 1) ls (.long (x ||| y) :: st) S σ) : zA Z μ sc k n pc ls (.long y :: .long x :: st) S σ := by
  intro p l e s m args below meth c D h0 ad0 cA0 n0 ad cA H locs lsA hC hX hag hn0 hH hS hl
  exact lv_lor hC.1 hC.2.1 d (kk p l e s m args below meth c D h0 ad0 cA0 n0 ad cA H locs lsA hC hX hag hn0 hH hS hl)
theorem za_lshl {x : Int64} {y : Int32} (d : decode (zB μ) pc = .ok (.lshl, 1)) (kk : zA Z μ sc k n (pc + 1) ls (.long (x <<< (y.toInt64 &&& 63)) :: st) S σ) : zA Z μ sc k n pc ls (.int y :: .long x :: st) S σ := by
  intro p l e s m args below meth c D h0 ad0 cA0 n0 ad cA H locs lsA hC hX hag hn0 hH hS hl
  exact lv_lshl hC.1 hC.2.1 d rfl (kk p l e s m args below meth c D h0 ad0 cA0 n0 ad cA H locs lsA hC hX hag hn0 hH hS hl)
theorem za_lshr {x : Int64} {y : Int32} (d : decode (zB μ) pc = .ok (.lshr, 1)) (kk : zA Z μ sc k n (pc + 1) ls (.long (x >>> (y.toInt64 &&& 63)) :: st) S σ) : zA Z μ sc k n pc ls (.int y :: .long x :: st) S σ := by
  intro p l e s m args below meth c D h0 ad0 cA0 n0 ad cA H locs lsA hC hX hag hn0 hH hS hl
  exact lv_lshr hC.1 hC.2.1 d rfl (kk p l e s m args below meth c D h0 ad0 cA0 n0 ad cA H locs lsA hC hX hag hn0 hH hS hl)
theorem za_lushr {x : Int64} {y : Int32} (d : decode (zB μ) pc = .ok (.lushr, 1)) (kk : zA Z μ sc k n (pc + 1) ls (.long (x.toUInt64 >>> (y.toInt64.toUInt64 &&& Int64.toUInt64 63)).toInt64 :: st) S σ) : zA Z μ sc k n pc ls (.int y :: .long x :: st) S σ := by
  intro p l e s m args below meth c D h0 ad0 cA0 n0 ad cA H locs lsA hC hX hag hn0 hH hS hl
  exact lv_lushr hC.1 hC.2.1 d rfl (kk p l e s m args below meth c D h0 ad0 cA0 n0 ad cA H locs lsA hC hX hag hn0 hH hS hl)
theorem za_i2l {x : Int32} (d : decode (zB μ) pc = .ok (.i2l, 1)) (kk : zA Z μ sc k n (pc + 1) ls (.long x.toInt64 :: st) S σ) : zA Z μ sc k n pc ls (.int x :: st) S σ := by
  intro p l e s m args below meth c D h0 ad0 cA0 n0 ad cA H locs lsA hC hX hag hn0 hH hS hl
  exact lv_i2l hC.1 hC.2.1 d rfl (kk p l e s m args below meth c D h0 ad0 cA0 n0 ad cA H locs lsA hC hX hag hn0 hH hS hl)
theorem za_l2i {x : Int64} (d : decode (zB μ) pc = .ok (.l2i, 1)) (kk : zA Z μ sc k n (pc + 1) ls (.int x.toInt32 :: st) S σ) : zA Z μ sc k n pc ls (.long x :: st) S σ := by
  intro p l e s m args below meth c D h0 ad0 cA0 n0 ad cA H locs lsA hC hX hag hn0 hH hS hl
  exact lv_l2i hC.1 hC.2.1 d rfl (kk p l e s m args below meth c D h0 ad0 cA0 n0 ad cA H locs lsA hC hX hag hn0 hH hS hl)
theorem za_i2b {x : Int32} (d : decode (zB μ) pc = .ok (.i2b, 1)) (kk : zA Z μ sc k n (pc + 1) ls (.int x.toInt8.toInt32 :: st) S σ) : zA Z μ sc k n pc ls (.int x :: st) S σ := by
  intro p l e s m args below meth c D h0 ad0 cA0 n0 ad cA H locs lsA hC hX hag hn0 hH hS hl
  exact lv_i2b hC.1 hC.2.1 d rfl (kk p l e s m args below meth c D h0 ad0 cA0 n0 ad cA H locs lsA hC hX hag hn0 hH hS hl)
theorem za_i2s {x : Int32} (d : decode (zB μ) pc = .ok (.i2s, 1)) (kk : zA Z μ sc k n (pc + 1) ls (.int x.toInt16.toInt32 :: st) S σ) : zA Z μ sc k n pc ls (.int x :: st) S σ := by
  intro p l e s m args below meth c D h0 ad0 cA0 n0 ad cA H locs lsA hC hX hag hn0 hH hS hl
  exact lv_i2s hC.1 hC.2.1 d rfl (kk p l e s m args below meth c D h0 ad0 cA0 n0 ad cA H locs lsA hC hX hag hn0 hH hS hl)
theorem za_lcmp {x y : Int64} (d : decode (zB μ) pc = .ok (.lcmp, 1)) (kk : zA Z μ sc k n (pc + 1) ls (.int (lg_cmp x y) :: st) S σ) : zA Z μ sc k n pc ls (.long y :: .long x :: st) S σ := by
  intro p l e s m args below meth c D h0 ad0 cA0 n0 ad cA H locs lsA hC hX hag hn0 hH hS hl
  exact W.lcmp hC.1 hC.2.1 d (kk p l e s m args below meth c D h0 ad0 cA0 n0 ad cA H locs lsA hC hX hag hn0 hH hS hl)
theorem za_dup {v : Value} (d : decode (zB μ) pc = .ok (.dup, 1)) (hv : v.category = 1) (kk : zA Z μ sc k n (pc + 1) ls (v :: v :: st) S σ) : zA Z μ sc k n pc ls (v :: st) S σ := by
  intro p l e s m args below meth c D h0 ad0 cA0 n0 ad cA H locs lsA hC hX hag hn0 hH hS hl
  exact lv_dup hC.1 hC.2.1 d ((zC_cat ad v).trans hv) (kk p l e s m args below meth c D h0 ad0 cA0 n0 ad cA H locs lsA hC hX hag hn0 hH hS hl)
theorem za_dup2 {v u : Value} (d : decode (zB μ) pc = .ok (.dup2, 1)) (hv : v.category = 1) (hu : u.category = 1) (kk : zA Z μ sc k n (pc + 1) ls (v :: u :: v :: u :: st) S σ) : zA Z μ sc k n pc ls (v :: u :: st) S σ := by
  intro p l e s m args below meth c D h0 ad0 cA0 n0 ad cA H locs lsA hC hX hag hn0 hH hS hl
  exact lv_dup2_11 hC.1 hC.2.1 d ((zC_cat ad v).trans hv) ((zC_cat ad u).trans hu) (kk p l e s m args below meth c D h0 ad0 cA0 n0 ad cA H locs lsA hC hX hag hn0 hH hS hl)
theorem za_iconst {z : Int} (x : Int32) (d : decode (zB μ) pc = .ok (.iconst z, 1)) (hv : Int32.ofInt z = x) (kk : zA Z μ sc k n (pc + 1) ls (.int x :: st) S σ) : zA Z μ sc k n pc ls (st) S σ := by
  intro p l e s m args below meth c D h0 ad0 cA0 n0 ad cA H locs lsA hC hX hag hn0 hH hS hl
  exact lv_iconst hC.1 hC.2.1 d hv (kk p l e s m args below meth c D h0 ad0 cA0 n0 ad cA H locs lsA hC hX hag hn0 hH hS hl)
theorem za_bipush {z : Int} (x : Int32) (d : decode (zB μ) pc = .ok (.bipush z, 2)) (hv : (Int8.ofInt z).toInt32 = x) (kk : zA Z μ sc k n (pc + 2) ls (.int x :: st) S σ) : zA Z μ sc k n pc ls (st) S σ := by
  intro p l e s m args below meth c D h0 ad0 cA0 n0 ad cA H locs lsA hC hX hag hn0 hH hS hl
  exact lv_bipush hC.1 hC.2.1 d hv (kk p l e s m args below meth c D h0 ad0 cA0 n0 ad cA H locs lsA hC hX hag hn0 hH hS hl)
theorem za_sipush {z : Int} (x : Int32) (d : decode (zB μ) pc = .ok (.sipush z, 3)) (hv : (Int16.ofInt z).toInt32 = x) (kk : zA Z μ sc k n (pc + 3) ls (.int x :: st) S σ) : zA Z μ sc k n pc ls (st) S σ := by
  intro p l e s m args below meth c D h0 ad0 cA0 n0 ad cA H locs lsA hC hX hag hn0 hH hS hl
  exact lv_sipush hC.1 hC.2.1 d hv (kk p l e s m args below meth c D h0 ad0 cA0 n0 ad cA H locs lsA hC hX hag hn0 hH hS hl)
theorem za_lconst {z : Fin 2} (x : Int64) (d : decode (zB μ) pc = .ok (.lconst z, 1)) (hv : Int64.ofNat (z : Nat) = x) (kk : zA Z μ sc k n (pc + 1) ls (.long x :: st) S σ) : zA Z μ sc k n pc ls (st) S σ := by
  intro p l e s m args below meth c D h0 ad0 cA0 n0 ad cA H locs lsA hC hX hag hn0 hH hS hl
  exact lv_lconst hC.1 hC.2.1 d hv (kk p l e s m args below meth c D h0 ad0 cA0 n0 ad cA H locs lsA hC hX hag hn0 hH hS hl)
theorem za_ldc {idx : Nat} (x : Int32) (d : decode (zB μ) pc = .ok (.ldc idx, 2)) (hw : Cond.constant (zY μ).cls idx x ∈ zwd) (kk : zA Z μ sc k n (pc + 2) ls (.int x :: st) S σ) : zA Z μ sc k n pc ls st S σ := by
  intro p l e s m args below meth c D h0 ad0 cA0 n0 ad cA H locs lsA hC hX hag hn0 hH hS hl
  exact lv_ldc hC.1 hC.2.1 hC.2.2.2.2.2.1 (hC.2.2.2.2.2.2.1 _ hw) d (kk p l e s m args below meth c D h0 ad0 cA0 n0 ad cA H locs lsA hC hX hag hn0 hH hS hl)
theorem za_ldc_w {idx : Nat} (x : Int32) (d : decode (zB μ) pc = .ok (.ldc_w idx, 3)) (hw : Cond.constant (zY μ).cls idx x ∈ zwd) (kk : zA Z μ sc k n (pc + 3) ls (.int x :: st) S σ) : zA Z μ sc k n pc ls st S σ := by
  intro p l e s m args below meth c D h0 ad0 cA0 n0 ad cA H locs lsA hC hX hag hn0 hH hS hl
  exact lv_ldcw hC.1 hC.2.1 hC.2.2.2.2.2.1 (hC.2.2.2.2.2.2.1 _ hw) d (kk p l e s m args below meth c D h0 ad0 cA0 n0 ad cA H locs lsA hC hX hag hn0 hH hS hl)
theorem za_ldc2_w {idx : Nat} (x : Int64) (d : decode (zB μ) pc = .ok (.ldc2_w idx, 3)) (hw : Cond.constantLong (zY μ).cls idx x ∈ zwd) (kk : zA Z μ sc k n (pc + 3) ls (.long x :: st) S σ) : zA Z μ sc k n pc ls st S σ := by
  intro p l e s m args below meth c D h0 ad0 cA0 n0 ad cA H locs lsA hC hX hag hn0 hH hS hl
  exact lv_ldc2 hC.1 hC.2.1 hC.2.2.2.2.2.1 (hC.2.2.2.2.2.2.1 _ hw) d (kk p l e s m args below meth c D h0 ad0 cA0 n0 ad cA H locs lsA hC hX hag hn0 hH hS hl)
theorem za_iload {z : Nat} {x : Int32} (d : decode (zB μ) pc = .ok (.iload z, 2)) (hi : ls[z]? = some (some (.int x))) (kk : zA Z μ sc k n (pc + 2) ls (.int x :: st) S σ) : zA Z μ sc k n pc ls st S σ := by
  intro p l e s m args below meth c D h0 ad0 cA0 n0 ad cA H locs lsA hC hX hag hn0 hH hS hl
  exact lv_iload hC.1 hC.2.1 d (hl.2.2.2 _ _ hi) (kk p l e s m args below meth c D h0 ad0 cA0 n0 ad cA H locs lsA hC hX hag hn0 hH hS hl)
theorem za_iload_n {z : Fin 4} {x : Int32} (d : decode (zB μ) pc = .ok (.iload_n z, 1)) (hi : ls[(z : Nat)]? = some (some (.int x))) (kk : zA Z μ sc k n (pc + 1) ls (.int x :: st) S σ) : zA Z μ sc k n pc ls st S σ := by
  intro p l e s m args below meth c D h0 ad0 cA0 n0 ad cA H locs lsA hC hX hag hn0 hH hS hl
  exact lv_iload_n hC.1 hC.2.1 d rfl (hl.2.2.2 _ _ hi) (kk p l e s m args below meth c D h0 ad0 cA0 n0 ad cA H locs lsA hC hX hag hn0 hH hS hl)
theorem za_lload {z : Nat} {x : Int64} (d : decode (zB μ) pc = .ok (.lload z, 2)) (hi : ls[z]? = some (some (.long x))) (kk : zA Z μ sc k n (pc + 2) ls (.long x :: st) S σ) : zA Z μ sc k n pc ls st S σ := by
  intro p l e s m args below meth c D h0 ad0 cA0 n0 ad cA H locs lsA hC hX hag hn0 hH hS hl
  exact lv_lload hC.1 hC.2.1 d (hl.2.2.2 _ _ hi) (kk p l e s m args below meth c D h0 ad0 cA0 n0 ad cA H locs lsA hC hX hag hn0 hH hS hl)
theorem za_lload_n {z : Fin 4} {x : Int64} (d : decode (zB μ) pc = .ok (.lload_n z, 1)) (hi : ls[(z : Nat)]? = some (some (.long x))) (kk : zA Z μ sc k n (pc + 1) ls (.long x :: st) S σ) : zA Z μ sc k n pc ls st S σ := by
  intro p l e s m args below meth c D h0 ad0 cA0 n0 ad cA H locs lsA hC hX hag hn0 hH hS hl
  exact lv_lload_n hC.1 hC.2.1 d rfl (hl.2.2.2 _ _ hi) (kk p l e s m args below meth c D h0 ad0 cA0 n0 ad cA H locs lsA hC hX hag hn0 hH hS hl)
theorem za_aload {z : Nat} {x : Nat} (d : decode (zB μ) pc = .ok (.aload z, 2)) (hi : ls[z]? = some (some (.ref x))) (kk : zA Z μ sc k n (pc + 2) ls (.ref x :: st) S σ) : zA Z μ sc k n pc ls st S σ := by
  intro p l e s m args below meth c D h0 ad0 cA0 n0 ad cA H locs lsA hC hX hag hn0 hH hS hl
  exact lv_aload hC.1 hC.2.1 d (hl.2.2.2 _ _ hi) (kk p l e s m args below meth c D h0 ad0 cA0 n0 ad cA H locs lsA hC hX hag hn0 hH hS hl)
theorem za_aload_n {z : Fin 4} {x : Nat} (d : decode (zB μ) pc = .ok (.aload_n z, 1)) (hi : ls[(z : Nat)]? = some (some (.ref x))) (kk : zA Z μ sc k n (pc + 1) ls (.ref x :: st) S σ) : zA Z μ sc k n pc ls st S σ := by
  intro p l e s m args below meth c D h0 ad0 cA0 n0 ad cA H locs lsA hC hX hag hn0 hH hS hl
  exact lv_aload_n hC.1 hC.2.1 d rfl (hl.2.2.2 _ _ hi) (kk p l e s m args below meth c D h0 ad0 cA0 n0 ad cA H locs lsA hC hX hag hn0 hH hS hl)
/-- no long stands just ahead of place i -/
def zNl (ls : List (Option Value)) (i : Nat) : Bool := match i with
  | 0 => true
  | j + 1 => match ls[j]? with
    | some (some (.long _)) => false
    | some (some (.double _)) => false
    | _ => true
theorem zNl_cat {ls : List (Option Value)} {i j : Nat} {v : Value} (h : zNl ls i = true) (hj : j + 1 = i) (hv : ls[j]? = some (some v)) : v.category = 1 := by
  subst hj
  simp only [zNl, hv] at h
  cases v <;> first | rfl | cases h
def zAl (ad : Nat → Nat) (ls : List (Option Value)) : List (Nat × Value) := ls.zipIdx.filterMap fun q => q.1.map fun v => (q.2, zC ad v)
theorem zAl_mem {ad : Nat → Nat} {ls : List (Option Value)} {i : Nat} {u : Value} : (i, u) ∈ zAl ad ls ↔ ∃ v, ls[i]? = some (some v) ∧ u = zC ad v := by
  unfold zAl
  rw [List.mem_filterMap]
  constructor
  · rintro ⟨⟨o, j⟩, h1, h2⟩
    rw [List.mem_zipIdx_iff_getElem?] at h1
    cases o with
    | none => simp at h2
    | some v =>
      simp only [Option.map_some, Option.some.injEq, Prod.mk.injEq] at h2
      obtain ⟨rfl, rfl⟩ := h2
      exact ⟨v, h1, rfl⟩
  · rintro ⟨v, h1, rfl⟩
    exact ⟨(some v, i), by rw [List.mem_zipIdx_iff_getElem?]; exact h1, rfl⟩
theorem zLs.has {ad : Nat → Nat} {lsA : Array Slot} {nL : Nat} {ls : List (Option Value)} (h : zLs ad lsA nL ls) : lv_has lsA nL (zAl ad ls) := by
  refine ⟨h.1, h.2.1, fun q hq => ?_⟩
  obtain ⟨i, u⟩ := q
  obtain ⟨v, h1, rfl⟩ := zAl_mem.mp hq
  exact h.2.2.2 i v h1
theorem zLs.set {ad : Nat → Nat} {lsA ls' : Array Slot} {nL : Nat} {ls : List (Option Value)} {i : Nat} {v : Value} (h : zLs ad lsA nL ls) (hi : i < ls.length) (hc : zNl ls i = true) (h' : lv_has ls' nL ((i, zC ad v) :: (zAl ad ls).filter (fun q => !(q.1 == i) && !(q.1 + 1 == i && q.2.category == 2)))) : zLs ad ls' nL (ls.set i (some v)) := by
  refine ⟨h'.1, h'.2.1, by rw [List.length_set]; exact h.2.2.1, fun j u hj => ?_⟩
  by_cases e : j = i
  · subst e
    rw [List.getElem?_set_self hi] at hj
    cases hj
    exact h'.2.2 _ List.mem_cons_self
  · rw [List.getElem?_set_ne (fun q => e q.symm)] at hj
    refine h'.2.2 (j, zC ad u) (List.mem_cons_of_mem _ (List.mem_filter.mpr ⟨zAl_mem.mpr ⟨u, hj, rfl⟩, ?_⟩))
    have e1 : (j == i) = false := by simpa using e
    by_cases e2 : j + 1 = i
    · have := zNl_cat hc e2 hj
      simp [e1, zC_cat, this]
    · simp [e1, e2]
theorem za_istore {z : Nat} {x : Int32} {ls' : List (Option Value)} (d : decode (zB μ) pc = .ok (.istore z, 2)) (hi : (z : Nat) < ls.length) (hc : zNl ls (z : Nat) = true) (he : ls.set (z : Nat) (some (.int x)) = ls') (kk : zA Z μ sc k n (pc + 2) ls' st S σ) : zA Z μ sc k n pc ls (.int x :: st) S σ := by
  intro p l e s m args below meth c D h0 ad0 cA0 n0 ad cA H locs lsA hC hX hag hn0 hH hS hl
  subst he
  exact lv_istore hC.1 hC.2.1 d hl.has (hl.2.2.1 ▸ hi) rfl (fun lsB hB => kk p l e s m args below meth c D h0 ad0 cA0 n0 ad cA H locs lsB hC hX hag hn0 hH hS (hl.set (v := .int x) hi hc hB))
theorem za_istore_n {z : Fin 4} {x : Int32} {ls' : List (Option Value)} (d : decode (zB μ) pc = .ok (.istore_n z, 1)) (hi : (z : Nat) < ls.length) (hc : zNl ls (z : Nat) = true) (he : ls.set (z : Nat) (some (.int x)) = ls') (kk : zA Z μ sc k n (pc + 1) ls' st S σ) : zA Z μ sc k n pc ls (.int x :: st) S σ := by
  intro p l e s m args below meth c D h0 ad0 cA0 n0 ad cA H locs lsA hC hX hag hn0 hH hS hl
  subst he
  exact lv_istore_n hC.1 hC.2.1 d rfl hl.has (hl.2.2.1 ▸ hi) rfl (fun lsB hB => kk p l e s m args below meth c D h0 ad0 cA0 n0 ad cA H locs lsB hC hX hag hn0 hH hS (hl.set (v := .int x) hi hc hB))
theorem za_astore {z : Nat} {x : Nat} {ls' : List (Option Value)} (d : decode (zB μ) pc = .ok (.astore z, 2)) (hi : (z : Nat) < ls.length) (hc : zNl ls (z : Nat) = true) (he : ls.set (z : Nat) (some (.ref x)) = ls') (kk : zA Z μ sc k n (pc + 2) ls' st S σ) : zA Z μ sc k n pc ls (.ref x :: st) S σ := by
  intro p l e s m args below meth c D h0 ad0 cA0 n0 ad cA H locs lsA hC hX hag hn0 hH hS hl
  subst he
  exact lv_astore hC.1 hC.2.1 d hl.has (hl.2.2.1 ▸ hi) rfl (fun lsB hB => kk p l e s m args below meth c D h0 ad0 cA0 n0 ad cA H locs lsB hC hX hag hn0 hH hS (hl.set (v := .ref x) hi hc hB))
theorem za_astore_n {z : Fin 4} {x : Nat} {ls' : List (Option Value)} (d : decode (zB μ) pc = .ok (.astore_n z, 1)) (hi : (z : Nat) < ls.length) (hc : zNl ls (z : Nat) = true) (he : ls.set (z : Nat) (some (.ref x)) = ls') (kk : zA Z μ sc k n (pc + 1) ls' st S σ) : zA Z μ sc k n pc ls (.ref x :: st) S σ := by
  intro p l e s m args below meth c D h0 ad0 cA0 n0 ad cA H locs lsA hC hX hag hn0 hH hS hl
  subst he
  exact lv_astore_n hC.1 hC.2.1 d rfl hl.has (hl.2.2.1 ▸ hi) rfl (fun lsB hB => kk p l e s m args below meth c D h0 ad0 cA0 n0 ad cA H locs lsB hC hX hag hn0 hH hS (hl.set (v := .ref x) hi hc hB))
theorem za_iinc {z : Nat} {q : Int} {x : Int32} (y : Int32) {ls' : List (Option Value)} (d : decode (zB μ) pc = .ok (.iinc z q, 3)) (hy : Int32.ofInt q = y) (hx : ls[z]? = some (some (.int x))) (hc : zNl ls z = true) (he : ls.set z (some (.int (x + y))) = ls') (kk : zA Z μ sc k n (pc + 3) ls' st S σ) : zA Z μ sc k n pc ls st S σ := by
  intro p l e s m args below meth c D h0 ad0 cA0 n0 ad cA H locs lsA hC hX hag hn0 hH hS hl
  subst he
  subst hy
  have hi : z < ls.length := (List.getElem?_eq_some_iff.mp hx).1
  obtain ⟨j, hj⟩ := List.getElem?_of_mem (zAl_mem (ad := ad).mpr ⟨_, hx, rfl⟩)
  exact lv_iinc hC.1 hC.2.1 d hl.has hj rfl (hl.2.2.1 ▸ hi) rfl (fun lsB hB => kk p l e s m args below meth c D h0 ad0 cA0 n0 ad cA H locs lsB hC hX hag hn0 hH hS (hl.set (v := .int (x + Int32.ofInt q)) hi hc hB))
theorem za_if_eq {x : Int32} {off : Int} (tgt : Nat) (d : decode (zB μ) pc = .ok (.ifCond .eq off, 3)) (ht : (pc : Int) + off = (tgt : Int)) (kt : x = 0 → zA Z μ sc k n tgt ls st S σ) (kf : ¬ x = 0 → zA Z μ sc k n (pc + 3) ls st S σ) : zA Z μ sc k n pc ls (.int x :: st) S σ := by
  intro p l e s m args below meth c D h0 ad0 cA0 n0 ad cA H locs lsA hC hX hag hn0 hH hS hl
  exact lv_if_eq hC.1 hC.2.1 d ht (fun h => kt h p l e s m args below meth c D h0 ad0 cA0 n0 ad cA H locs lsA hC hX hag hn0 hH hS hl) (fun h => kf h p l e s m args below meth c D h0 ad0 cA0 n0 ad cA H locs lsA hC hX hag hn0 hH hS hl)
theorem za_icmp_eq {x y : Int32} {off : Int} (tgt : Nat) (d : decode (zB μ) pc = .ok (.if_icmp .eq off, 3)) (ht : (pc : Int) + off = (tgt : Int)) (kt : x = y → zA Z μ sc k n tgt ls st S σ) (kf : ¬ x = y → zA Z μ sc k n (pc + 3) ls st S σ) : zA Z μ sc k n pc ls (.int y :: .int x :: st) S σ := by
  intro p l e s m args below meth c D h0 ad0 cA0 n0 ad cA H locs lsA hC hX hag hn0 hH hS hl
  exact lv_icmp_eq hC.1 hC.2.1 d ht (fun h => kt h p l e s m args below meth c D h0 ad0 cA0 n0 ad cA H locs lsA hC hX hag hn0 hH hS hl) (fun h => kf h p l e s m args below meth c D h0 ad0 cA0 n0 ad cA H locs lsA hC hX hag hn0 hH hS hl)
theorem za_if_ne {x : Int32} {off : Int} (tgt : Nat) (d : decode (zB μ) pc = .ok (.ifCond .ne off, 3)) (ht : (pc : Int) + off = (tgt : Int)) (kt : ¬ x = 0 → zA Z μ sc k n tgt ls st S σ) (kf : x = 0 → zA Z μ sc k n (pc + 3) ls st S σ) : zA Z μ sc k n pc ls (.int x :: st) S σ := by
  intro p l e s m args below meth c D h0 ad0 cA0 n0 ad cA H locs lsA hC hX hag hn0 hH hS hl
  exact lv_if_ne hC.1 hC.2.1 d ht (fun h => kt h p l e s m args below meth c D h0 ad0 cA0 n0 ad cA H locs lsA hC hX hag hn0 hH hS hl) (fun h => kf h p l e s m args below meth c D h0 ad0 cA0 n0 ad cA H locs lsA hC hX hag hn0 hH hS hl)
theorem za_icmp_ne {x y : Int32} {off : Int} (tgt : Nat) (d : decode (zB μ) pc = .ok (.if_icmp .ne off, 3)) (ht : (pc : Int) + off = (tgt : Int)) (kt : ¬ x = y → zA Z μ sc k n tgt ls st S σ) (kf : x = y → zA Z μ sc k n (pc + 3) ls st S σ) : zA Z μ sc k n pc ls (.int y :: .int x :: st) S σ := by
  intro p l e s m args below meth c D h0 ad0 cA0 n0 ad cA H locs lsA hC hX hag hn0 hH hS hl
  exact lv_icmp_ne hC.1 hC.2.1 d ht (fun h => kt h p l e s m args below meth c D h0 ad0 cA0 n0 ad cA H locs lsA hC hX hag hn0 hH hS hl) (fun h => kf h p l e s m args below meth c D h0 ad0 cA0 n0 ad cA H locs lsA hC hX hag hn0 hH hS hl)
theorem za_if_lt {x : Int32} {off : Int} (tgt : Nat) (d : decode (zB μ) pc = .ok (.ifCond .lt off, 3)) (ht : (pc : Int) + off = (tgt : Int)) (kt : x < 0 → zA Z μ sc k n tgt ls st S σ) (kf : ¬ x < 0 → zA Z μ sc k n (pc + 3) ls st S σ) : zA Z μ sc k n pc ls (.int x :: st) S σ := by
  intro p l e s m args below meth c D h0 ad0 cA0 n0 ad cA H locs lsA hC hX hag hn0 hH hS hl
  exact lv_if_lt hC.1 hC.2.1 d ht (fun h => kt h p l e s m args below meth c D h0 ad0 cA0 n0 ad cA H locs lsA hC hX hag hn0 hH hS hl) (fun h => kf h p l e s m args below meth c D h0 ad0 cA0 n0 ad cA H locs lsA hC hX hag hn0 hH hS hl)
theorem za_icmp_lt {x y : Int32} {off : Int} (tgt : Nat) (d : decode (zB μ) pc = .ok (.if_icmp .lt off, 3)) (ht : (pc : Int) + off = (tgt : Int)) (kt : x < y → zA Z μ sc k n tgt ls st S σ) (kf : ¬ x < y → zA Z μ sc k n (pc + 3) ls st S σ) : zA Z μ sc k n pc ls (.int y :: .int x :: st) S σ := by
  intro p l e s m args below meth c D h0 ad0 cA0 n0 ad cA H locs lsA hC hX hag hn0 hH hS hl
  exact lv_icmp_lt hC.1 hC.2.1 d ht (fun h => kt h p l e s m args below meth c D h0 ad0 cA0 n0 ad cA H locs lsA hC hX hag hn0 hH hS hl) (fun h => kf h p l e s m args below meth c D h0 ad0 cA0 n0 ad cA H locs lsA hC hX hag hn0 hH hS hl)
theorem za_if_ge {x : Int32} {off : Int} (tgt : Nat) (d : decode (zB μ) pc = .ok (.ifCond .ge off, 3)) (ht : (pc : Int) + off = (tgt : Int)) (kt : 0 ≤ x → zA Z μ sc k n tgt ls st S σ) (kf : ¬ 0 ≤ x → zA Z μ sc k n (pc + 3) ls st S σ) : zA Z μ sc k n pc ls (.int x :: st) S σ := by
  intro p l e s m args below meth c D h0 ad0 cA0 n0 ad cA H locs lsA hC hX hag hn0 hH hS hl
  exact lv_if_ge hC.1 hC.2.1 d ht (fun h => kt h p l e s m args below meth c D h0 ad0 cA0 n0 ad cA H locs lsA hC hX hag hn0 hH hS hl) (fun h => kf h p l e s m args below meth c D h0 ad0 cA0 n0 ad cA H locs lsA hC hX hag hn0 hH hS hl)
theorem za_icmp_ge {x y : Int32} {off : Int} (tgt : Nat) (d : decode (zB μ) pc = .ok (.if_icmp .ge off, 3)) (ht : (pc : Int) + off = (tgt : Int)) (kt : y ≤ x → zA Z μ sc k n tgt ls st S σ) (kf : ¬ y ≤ x → zA Z μ sc k n (pc + 3) ls st S σ) : zA Z μ sc k n pc ls (.int y :: .int x :: st) S σ := by
  intro p l e s m args below meth c D h0 ad0 cA0 n0 ad cA H locs lsA hC hX hag hn0 hH hS hl
  exact lv_icmp_ge hC.1 hC.2.1 d ht (fun h => kt h p l e s m args below meth c D h0 ad0 cA0 n0 ad cA H locs lsA hC hX hag hn0 hH hS hl) (fun h => kf h p l e s m args below meth c D h0 ad0 cA0 n0 ad cA H locs lsA hC hX hag hn0 hH hS hl)
theorem za_if_gt {x : Int32} {off : Int} (tgt : Nat) (d : decode (zB μ) pc = .ok (.ifCond .gt off, 3)) (ht : (pc : Int) + off = (tgt : Int)) (kt : 0 < x → zA Z μ sc k n tgt ls st S σ) (kf : ¬ 0 < x → zA Z μ sc k n (pc + 3) ls st S σ) : zA Z μ sc k n pc ls (.int x :: st) S σ := by
  intro p l e s m args below meth c D h0 ad0 cA0 n0 ad cA H locs lsA hC hX hag hn0 hH hS hl
  exact lv_if_gt hC.1 hC.2.1 d ht (fun h => kt h p l e s m args below meth c D h0 ad0 cA0 n0 ad cA H locs lsA hC hX hag hn0 hH hS hl) (fun h => kf h p l e s m args below meth c D h0 ad0 cA0 n0 ad cA H locs lsA hC hX hag hn0 hH hS hl)
theorem za_icmp_gt {x y : Int32} {off : Int} (tgt : Nat) (d : decode (zB μ) pc = .ok (.if_icmp .gt off, 3)) (ht : (pc : Int) + off = (tgt : Int)) (kt : y < x → zA Z μ sc k n tgt ls st S σ) (kf : ¬ y < x → zA Z μ sc k n (pc + 3) ls st S σ) : zA Z μ sc k n pc ls (.int y :: .int x :: st) S σ := by
  intro p l e s m args below meth c D h0 ad0 cA0 n0 ad cA H locs lsA hC hX hag hn0 hH hS hl
  exact lv_icmp_gt hC.1 hC.2.1 d ht (fun h => kt h p l e s m args below meth c D h0 ad0 cA0 n0 ad cA H locs lsA hC hX hag hn0 hH hS hl) (fun h => kf h p l e s m args below meth c D h0 ad0 cA0 n0 ad cA H locs lsA hC hX hag hn0 hH hS hl)
theorem za_if_le {x : Int32} {off : Int} (tgt : Nat) (d : decode (zB μ) pc = .ok (.ifCond .le off, 3)) (ht : (pc : Int) + off = (tgt : Int)) (kt : x ≤ 0 → zA Z μ sc k n tgt ls st S σ) (kf : ¬ x ≤ 0 → zA Z μ sc k n (pc + 3) ls st S σ) : zA Z μ sc k n pc ls (.int x :: st) S σ := by
  intro p l e s m args below meth c D h0 ad0 cA0 n0 ad cA H locs lsA hC hX hag hn0 hH hS hl
  exact lv_if_le hC.1 hC.2.1 d ht (fun h => kt h p l e s m args below meth c D h0 ad0 cA0 n0 ad cA H locs lsA hC hX hag hn0 hH hS hl) (fun h => kf h p l e s m args below meth c D h0 ad0 cA0 n0 ad cA H locs lsA hC hX hag hn0 hH hS hl)
theorem za_icmp_le {x y : Int32} {off : Int} (tgt : Nat) (d : decode (zB μ) pc = .ok (.if_icmp .le off, 3)) (ht : (pc : Int) + off = (tgt : Int)) (kt : x ≤ y → zA Z μ sc k n tgt ls st S σ) (kf : ¬ x ≤ y → zA Z μ sc k n (pc + 3) ls st S σ) : zA Z μ sc k n pc ls (.int y :: .int x :: st) S σ := by
  intro p l e s m args below meth c D h0 ad0 cA0 n0 ad cA H locs lsA hC hX hag hn0 hH hS hl
  exact lv_icmp_le hC.1 hC.2.1 d ht (fun h => kt h p l e s m args below meth c D h0 ad0 cA0 n0 ad cA H locs lsA hC hX hag hn0 hH hS hl) (fun h => kf h p l e s m args below meth c D h0 ad0 cA0 n0 ad cA H locs lsA hC hX hag hn0 hH hS hl)
theorem za_goto {off : Int} (tgt : Nat) (d : decode (zB μ) pc = .ok (.goto off, 3)) (ht : (pc : Int) + off = (tgt : Int)) (kk : zA Z μ sc k n tgt ls st S σ) : zA Z μ sc k n pc ls st S σ := by
  intro p l e s m args below meth c D h0 ad0 cA0 n0 ad cA H locs lsA hC hX hag hn0 hH hS hl
  exact lv_goto hC.1 hC.2.1 d ht (kk p l e s m args below meth c D h0 ad0 cA0 n0 ad cA H locs lsA hC hX hag hn0 hH hS hl)
theorem za_tableOut {dflt lo hi : Int} {offs : Array Int} {len : Nat} {x : Int32} (tgt : Nat) (d : decode (zB μ) pc = .ok (.tableswitch dflt lo hi offs, len)) (h : x.toInt < lo ∨ hi < x.toInt) (ht : (pc : Int) + dflt = (tgt : Int)) (kk : zA Z μ sc k n tgt ls st S σ) : zA Z μ sc k n pc ls (.int x :: st) S σ := by
  intro p l e s m args below meth c D h0 ad0 cA0 n0 ad cA H locs lsA hC hX hag hn0 hH hS hl
  exact lv_tableOut hC.1 hC.2.1 d h ht (kk p l e s m args below meth c D h0 ad0 cA0 n0 ad cA H locs lsA hC hX hag hn0 hH hS hl)
theorem za_tableIn {dflt lo hi : Int} {offs : Array Int} {len : Nat} {x : Int32} {off : Int} (tgt : Nat) (d : decode (zB μ) pc = .ok (.tableswitch dflt lo hi offs, len)) (h1 : ¬ x.toInt < lo) (h2 : ¬ hi < x.toInt) (ho : offs[(x.toInt - lo).toNat]? = some off) (ht : (pc : Int) + off = (tgt : Int)) (kk : zA Z μ sc k n tgt ls st S σ) : zA Z μ sc k n pc ls (.int x :: st) S σ := by
  intro p l e s m args below meth c D h0 ad0 cA0 n0 ad cA H locs lsA hC hX hag hn0 hH hS hl
  exact lv_tableIn hC.1 hC.2.1 d h1 h2 ho ht (kk p l e s m args below meth c D h0 ad0 cA0 n0 ad cA H locs lsA hC hX hag hn0 hH hS hl)
theorem za_lookup {dflt : Int} {ps : Array (Int × Int)} {len : Nat} {x : Int32} {off : Int} (tgt : Nat) (d : decode (zB μ) pc = .ok (.lookupswitch dflt ps, len)) (hp : (ps.toList.zip (ps.toList.drop 1)).all (fun (a, next) => a.1 < next.1) = true) (ho : Op.lookupswitch.offset ps.toList dflt x.toInt = off) (ht : (pc : Int) + off = (tgt : Int)) (kk : zA Z μ sc k n tgt ls st S σ) : zA Z μ sc k n pc ls (.int x :: st) S σ := by
  intro p l e s m args below meth c D h0 ad0 cA0 n0 ad cA H locs lsA hC hX hag hn0 hH hS hl
  exact lv_lookup hC.1 hC.2.1 d hp ho ht (kk p l e s m args below meth c D h0 ad0 cA0 n0 ad cA H locs lsA hC hX hag hn0 hH hS hl)
end ZA
end
section
/-! heap rows of the judgement: fields, rows, returns, entry, calls, new cells -/
def zTf (ci : Nat) : Nat → FieldType := match ci with
  | 0 => tyX0
  | 1 => tyX1
  | 2 => tyX2
  | 3 => tyX3
  | 4 => tyX4
  | 5 => tyX5
  | 6 => tyX6
  | _ => tyX7
theorem zcl_cases {P : Nat → vw_C → Prop} (h0 : P 0 (RX0, TX0, 14)) (h1 : P 1 (RX1, TX1, 10)) (h2 : P 2 (RX2, TX2, 7)) (h3 : P 3 (RX3, TX3, 4)) (h4 : P 4 (RX4, TX4, 3)) (h5 : P 5 (RX5, TX5, 10)) (h6 : P 6 (RX6, TX6, 6)) (h7 : P 7 (RX7, TX7, 28)) : ∀ (ci : Nat) (q : vw_C), zcl[ci]? = some q → P ci q := by
  intro ci q h
  match ci, h with
  | 0, h => cases h; exact h0
  | 1, h => cases h; exact h1
  | 2, h => cases h; exact h2
  | 3, h => cases h; exact h3
  | 4, h => cases h; exact h4
  | 5, h => cases h; exact h5
  | 6, h => cases h; exact h6
  | 7, h => cases h; exact h7
  | c + 8, h => simp [zcl] at h
set_option maxRecDepth 100000 in
theorem zin0 : ∀ w ∈ u_ws RX0 TX0 14, w ∈ zwd := by decide +kernel
set_option maxRecDepth 100000 in
theorem zin1 : ∀ w ∈ u_ws RX1 TX1 10, w ∈ zwd := by decide +kernel
set_option maxRecDepth 100000 in
theorem zin2 : ∀ w ∈ u_ws RX2 TX2 7, w ∈ zwd := by decide +kernel
set_option maxRecDepth 100000 in
theorem zin3 : ∀ w ∈ u_ws RX3 TX3 4, w ∈ zwd := by decide +kernel
set_option maxRecDepth 100000 in
theorem zin4 : ∀ w ∈ u_ws RX4 TX4 3, w ∈ zwd := by decide +kernel
set_option maxRecDepth 100000 in
theorem zin5 : ∀ w ∈ u_ws RX5 TX5 10, w ∈ zwd := by decide +kernel
set_option maxRecDepth 100000 in
theorem zin6 : ∀ w ∈ u_ws RX6 TX6 6, w ∈ zwd := by decide +kernel
set_option maxRecDepth 100000 in
theorem zin7 : ∀ w ∈ u_ws RX7 TX7 28, w ∈ zwd := by decide +kernel
theorem zcl_in : ∀ (ci : Nat) (q : vw_C), zcl[ci]? = some q → ∀ w ∈ u_ws q.1 q.2.1 q.2.2, w ∈ zwd := zcl_cases zin0 zin1 zin2 zin3 zin4 zin5 zin6 zin7
theorem zcl_ty : ∀ (ci : Nat) (q : vw_C), zcl[ci]? = some q → ∀ k, k < q.2.2 → parseFieldDescriptor (q.2.1 k).2.2.1 = some (zTf ci k) := zcl_cases tyX0_ok tyX1_ok tyX2_ok tyX3_ok tyX4_ok tyX5_ok tyX6_ok tyX7_ok
theorem zcl_nm : ∀ (ci : Nat) (q : vw_C), zcl[ci]? = some q → ∀ a, a < q.2.2 → ∀ b, b < q.2.2 → a ≠ b → (q.2.1 a).2.1 ≠ (q.2.1 b).2.1 := zcl_cases nmX0 nmX1 nmX2 nmX3 nmX4 nmX5 nmX6 nmX7
/-- a field link: class own, entry idx: slot kf of class number ci -/
def zLk (own : String) (idx ci kf : Nat) : Prop := ∃ (C : String) (T : u_T) (N : Nat), zcl[ci]? = some (C, T, N) ∧ kf < N ∧ Cond.fieldLink own idx (T kf).1 (T kf).2.1 (T kf).2.2.1 ∈ zwd
def zLp (own : String) (idx ci kf : Nat) (fin : Bool) (ty : FieldType) : Prop := ∃ (C : String) (T : u_T) (N : Nat), zcl[ci]? = some (C, T, N) ∧ kf < N ∧ Cond.fieldLink own idx (T kf).1 (T kf).2.1 (T kf).2.2.1 ∈ zwd ∧ (T kf).2.2.2 = fin ∧ parseFieldDescriptor (T kf).2.2.1 = some ty ∧ (T kf).1 = C
theorem zmI {ad : Nat → Nat} {f : Nat → Int32} {fs : List (Option (Option Nat))} {kf : Nat} (h : fs[kf]? = some none) : (fs.mapIdx (zF ad f))[kf]? = some (.int (f kf)) := by simp [List.getElem?_mapIdx, h, zF]
theorem zmR {ad : Nat → Nat} {f : Nat → Int32} {fs : List (Option (Option Nat))} {kf r : Nat} (h : fs[kf]? = some (some (some r))) : (fs.mapIdx (zF ad f))[kf]? = some (.ref (ad r)) := by simp [List.getElem?_mapIdx, h, zF, va_rf]
theorem zmSet {ad : Nat → Nat} {f : Nat → Int32} {fs : List (Option (Option Nat))} {kf : Nat} {x : Int32} (h : fs[kf]? = some none) : (fs.mapIdx (zF ad f)).set kf (.int x) = fs.mapIdx (zF ad (upd f kf x)) := by
  apply List.ext_getElem?
  intro j
  have hi : kf < (fs.mapIdx (zF ad f)).length := by rw [List.length_mapIdx]; exact (List.getElem?_eq_some_iff.mp h).1
  by_cases hj : j = kf
  · subst hj
    rw [List.getElem?_set_self hi, zmI h]
    simp [upd]
  · rw [List.getElem?_set_ne (fun q => hj q.symm), List.getElem?_mapIdx, List.getElem?_mapIdx]
    cases fs[j]? with
    | none => rfl
    | some o => cases o <;> simp [zF, upd, hj]
theorem zmSetR {ad : Nat → Nat} {f : Nat → Int32} {fs : List (Option (Option Nat))} {kf r : Nat} (h : kf < fs.length) : (fs.mapIdx (zF ad f)).set kf (.ref (ad r)) = (fs.set kf (some (some r))).mapIdx (zF ad f) := by
  apply List.ext_getElem?
  intro j
  have hi : kf < (fs.mapIdx (zF ad f)).length := by rw [List.length_mapIdx]; exact h
  by_cases hj : j = kf
  · subst hj
    rw [List.getElem?_set_self hi, zmR (List.getElem?_set_self h)]
  · rw [List.getElem?_set_ne (fun q => hj q.symm), List.getElem?_mapIdx, List.getElem?_mapIdx, List.getElem?_set_ne (fun q => hj q.symm)]
section ZA
variable {Z : zZt} {μ : zM} {sc : Option (Nat × (Nat → Int32))} {k n pc : Nat} {ls : List (Option Value)} {st : List Value} {S : List zSh} {σ : zSt}
theorem za_getI {i ci idx kf : Nat} {fs : List (Option (Option Nat))} (d : decode (zB μ) pc = .ok (.getfield idx, 3)) (lk : zLk (zY μ).cls idx ci kf) (hs : S[i]? = some (.inr (.inr (ci, fs)))) (hf : fs[kf]? = some none) (kk : zA Z μ sc k n (pc + 3) ls (.int (σ i kf) :: st) S σ) : zA Z μ sc k n pc ls (.ref i :: st) S σ := by
  intro p l e s m args below meth c D h0 ad0 cA0 n0 ad cA H locs lsA hC hX hag hn0 hH hS hl
  obtain ⟨C, T, N, hc, hk, hw⟩ := lk
  exact va_get hC.1 hC.2.1 hC.2.2.2.2.2.2.1 (zcl_in _ _ hc) hC.2.2.2.2.2.1 hH.2.2.1 hH.1 i (zWd_at hs) hc kf hk (hC.2.2.2.2.2.2.1 _ hw) (fun _ h => h) (zmI hf) d (kk p l e s m args below meth c D h0 ad0 cA0 n0 ad cA H locs lsA hC hX hag hn0 hH hS hl)
theorem za_getR {i ci idx kf r : Nat} {fs : List (Option (Option Nat))} (d : decode (zB μ) pc = .ok (.getfield idx, 3)) (lk : zLk (zY μ).cls idx ci kf) (hs : S[i]? = some (.inr (.inr (ci, fs)))) (hf : fs[kf]? = some (some (some r))) (kk : zA Z μ sc k n (pc + 3) ls (.ref r :: st) S σ) : zA Z μ sc k n pc ls (.ref i :: st) S σ := by
  intro p l e s m args below meth c D h0 ad0 cA0 n0 ad cA H locs lsA hC hX hag hn0 hH hS hl
  obtain ⟨C, T, N, hc, hk, hw⟩ := lk
  exact va_get hC.1 hC.2.1 hC.2.2.2.2.2.2.1 (zcl_in _ _ hc) hC.2.2.2.2.2.1 hH.2.2.1 hH.1 i (zWd_at hs) hc kf hk (hC.2.2.2.2.2.2.1 _ hw) (fun _ h => h) (zmR hf) d (kk p l e s m args below meth c D h0 ad0 cA0 n0 ad cA H locs lsA hC hX hag hn0 hH hS hl)
theorem za_putX {i ci idx kf : Nat} {ty : FieldType} {x : Int32} {fs : List (Option (Option Nat))} (d : decode (zB μ) pc = .ok (.putfield idx, 3)) (lk : zLp (zY μ).cls idx ci kf false ty) (hs : S[i]? = some (.inr (.inr (ci, fs)))) (hf : fs[kf]? = some none) (hn : narrow ty (.int x) = .int x) (hfit : fits ty (.int x) = true) (kk : zA Z μ sc k n (pc + 3) ls st S (zup σ i kf x)) : zA Z μ sc k n pc ls (.int x :: .ref i :: st) S σ := by
  intro p l e s m args below meth c D h0 ad0 cA0 n0 ad cA H locs lsA hC hX hag hn0 hH hS hl
  obtain ⟨C, T, N, hc, hk, hw, hfin, hd, -⟩ := lk
  refine va_put hC.1 hC.2.1 hC.2.2.2.2.2.2.1 (zcl_in _ _ hc) (zTf ci) (zcl_ty _ _ hc) (zcl_nm _ _ hc) hC.2.2.2.2.2.1 hH.2.2.1 hH.1 hH.2.1 hS i (zWd_at hs) hc kf hk (hC.2.2.2.2.2.2.1 _ hw) (fun _ h => h) hfin hd hn hfit (by rw [List.length_mapIdx]; exact (List.getElem?_eq_some_iff.mp hf).1) d (fun H1 locs1 hP1 hD1 hS1 => ?_)
  have ew : (zWd ad cA S σ).set i (ad i, .inr (ci, (fs.mapIdx (zF ad (σ i))).set kf (.int x))) = zWd ad cA S (zup σ i kf x) := by
    rw [zmSet hf, zup, ← zWd_row hs]
    simp only [zE, zrow_s]
  exact kk p l e s m args below meth c D h0 ad0 cA0 n0 ad cA H1 locs1 lsA hC hX hag hn0 ⟨by rw [← ew]; exact hP1, by rw [← ew]; exact hD1, hH.2.2⟩ hS1 hl
theorem za_putI {i ci idx kf : Nat} {x : Int32} {fs : List (Option (Option Nat))} (d : decode (zB μ) pc = .ok (.putfield idx, 3)) (lk : zLp (zY μ).cls idx ci kf false .int) (hs : S[i]? = some (.inr (.inr (ci, fs)))) (hf : fs[kf]? = some none) (kk : zA Z μ sc k n (pc + 3) ls st S (zup σ i kf x)) : zA Z μ sc k n pc ls (.int x :: .ref i :: st) S σ := za_putX d lk hs hf rfl rfl kk
theorem za_putR {i ci idx kf r : Nat} {ty : FieldType} {fs : List (Option (Option Nat))} {S' : List zSh} (d : decode (zB μ) pc = .ok (.putfield idx, 3)) (lk : zLp (zY μ).cls idx ci kf true ty) (hown : (zcl[ci]?).map (fun q => q.1) = some (zY μ).cls) (hin : (zY μ).name = "<init>") (hty : (∃ t, ty = .object t) ∨ ∃ t, ty = .array t) (hs : S[i]? = some (.inr (.inr (ci, fs)))) (hf : kf < fs.length) (he : S.set i (.inr (.inr (ci, fs.set kf (some (some r))))) = S') (kk : zA Z μ sc k n (pc + 3) ls st S' σ) : zA Z μ sc k n pc ls (.ref r :: .ref i :: st) S σ := by
  intro p l e s m args below meth c D h0 ad0 cA0 n0 ad cA H locs lsA hC hX hag hn0 hH hS hl
  subst he
  obtain ⟨C, T, N, hc, hk, hw, hfin, hd, hC2⟩ := lk
  rw [hc] at hown
  have hown2 : C = (zY μ).cls := Option.some.inj hown
  have hn9 : narrow ty (.ref (ad r)) = .ref (ad r) ∧ fits ty (.ref (ad r)) = true := by rcases hty with ⟨t, rfl⟩ | ⟨t, rfl⟩ <;> exact ⟨rfl, rfl⟩
  refine va_putF hC.1 hC.2.1 hC.2.2.2.2.2.2.1 (zcl_in _ _ hc) (zTf ci) (zcl_ty _ _ hc) (zcl_nm _ _ hc) hC.2.2.2.2.2.1 hH.2.2.1 hH.1 hH.2.1 hS i (zWd_at hs) hc kf hk (hC.2.2.2.2.2.2.1 _ hw) (fun _ h => h) hfin (hC.2.2.2.2.2.2.2.2.2.trans hin) (hC2.trans hown2) hd hn9.1 hn9.2 (by rw [List.length_mapIdx]; exact hf) d (fun H1 locs1 hP1 hD1 hS1 => ?_)
  have ew : (zWd ad cA S σ).set i (ad i, .inr (ci, (fs.mapIdx (zF ad (σ i))).set kf (.ref (ad r)))) = zWd ad cA (S.set i (.inr (.inr (ci, fs.set kf (some (some r)))))) σ := by
    rw [zmSetR hf, ← zWd_shape hs]
    rfl
  have hsz : i < S.length := (List.getElem?_eq_some_iff.mp hs).1
  refine kk p l e s m args below meth c D h0 ad0 cA0 n0 ad cA H1 locs1 lsA hC hX hag (by rw [List.length_set]; exact hn0) ⟨by rw [← ew]; exact hP1, by rw [← ew]; exact hD1, hH.2.2.1, fun j sh t h1 h2 => ?_⟩ hS1 hl
  by_cases hj : j = i
  · subst hj
    rw [List.getElem?_set_self hsz] at h1
    cases h1
    cases h2
  · rw [List.getElem?_set_ne (fun q => hj q.symm)] at h1
    exact hH.2.2.2 j sh t h1 h2
theorem za_iald {i N : Nat} {j : Int32} (d : decode (zB μ) pc = .ok (.iaload, 1)) (hs : S[i]? = some (.inl N)) (hin : vp_in j N) (kk : zA Z μ sc k n (pc + 1) ls (.int (σ i j.toNatClampNeg) :: st) S σ) : zA Z μ sc k n pc ls (.int j :: .ref i :: st) S σ := by
  intro p l e s m args below meth c D h0 ad0 cA0 n0 ad cA H locs lsA hC hX hag hn0 hH hS hl
  exact va_iald hC.1 hC.2.1 (hH.K1 hs rfl) hH.1 i 0 (zWd_at hs) rfl hin d (kk p l e s m args below meth c D h0 ad0 cA0 n0 ad cA H locs lsA hC hX hag hn0 hH hS hl)
theorem za_iast {i N : Nat} {j x : Int32} (d : decode (zB μ) pc = .ok (.iastore, 1)) (hs : S[i]? = some (.inl N)) (hin : vp_in j N) (kk : zA Z μ sc k n (pc + 1) ls st S (zup σ i j.toNatClampNeg x)) : zA Z μ sc k n pc ls (.int x :: .int j :: .ref i :: st) S σ := by
  intro p l e s m args below meth c D h0 ad0 cA0 n0 ad cA H locs lsA hC hX hag hn0 hH hS hl
  refine va_iast hC.1 hC.2.1 (hH.K1 hs rfl) hH.1 hH.2.1 hS i 0 (zWd_at hs) rfl hin d (fun H1 locs1 hP1 hD1 hS1 => ?_)
  have ew : (zWd ad cA S σ).set i (ad i, .inl (cA i, N, .inl (upd (σ i) j.toNatClampNeg x))) = zWd ad cA S (zup σ i j.toNatClampNeg x) := by
    rw [zup, ← zWd_row hs]
    simp only [zE, zrow_s]
  exact kk p l e s m args below meth c D h0 ad0 cA0 n0 ad cA H1 locs1 lsA hC hX hag hn0 ⟨by rw [← ew]; exact hP1, by rw [← ew]; exact hD1, hH.2.2⟩ hS1 hl
theorem za_alen {i N : Nat} (d : decode (zB μ) pc = .ok (.arraylength, 1)) (hs : S[i]? = some (.inl N)) (kk : zA Z μ sc k n (pc + 1) ls (.int (Int32.ofNat N) :: st) S σ) : zA Z μ sc k n pc ls (.ref i :: st) S σ := by
  intro p l e s m args below meth c D h0 ad0 cA0 n0 ad cA H locs lsA hC hX hag hn0 hH hS hl
  exact va_alen hC.1 hC.2.1 (hH.K1 hs rfl) hH.1 i 0 (zWd_at hs) rfl rfl d (kk p l e s m args below meth c D h0 ad0 cA0 n0 ad cA H locs lsA hC hX hag hn0 hH hS hl)
theorem za_aald {i r : Nat} {rs : List (Option Nat)} {j : Int32} (d : decode (zB μ) pc = .ok (.aaload, 1)) (hs : S[i]? = some (.inr (.inl rs))) (hin : vp_in j rs.length) (hr : rs[j.toNatClampNeg]? = some (some r)) (kk : zA Z μ sc k n (pc + 1) ls (.ref r :: st) S σ) : zA Z μ sc k n pc ls (.int j :: .ref i :: st) S σ := by
  intro p l e s m args below meth c D h0 ad0 cA0 n0 ad cA H locs lsA hC hX hag hn0 hH hS hl
  refine va_aldq hC.1 hC.2.1 (hH.K1 hs rfl) hH.1 i 0 (zWd_at hs) rfl hin d ?_
  have er : va_rf (zRow ad rs j.toNatClampNeg) = .ref (ad r) := by simp [zRow, hr, va_rf]
  rw [er]
  exact kk p l e s m args below meth c D h0 ad0 cA0 n0 ad cA H locs lsA hC hX hag hn0 hH hS hl
theorem za_aast {i v ci : Nat} {rs : List (Option Nat)} {fs : List (Option (Option Nat))} {j : Int32} {S' : List zSh} (d : decode (zB μ) pc = .ok (.aastore, 1)) (hs : S[i]? = some (.inr (.inl rs))) (hv : S[v]? = some (.inr (.inr (4, fs)))) (hin : vp_in j rs.length) (he : S.set i (.inr (.inl (rs.set j.toNatClampNeg (some v)))) = S') (kk : zA Z μ sc k n (pc + 1) ls st S' σ) : zA Z μ sc k n pc ls (.ref v :: .int j :: .ref i :: st) S σ := by
  intro p l e s m args below meth c D h0 ad0 cA0 n0 ad cA H locs lsA hC hX hag hn0 hH hS hl
  subst he
  refine va_astq hC.1 hC.2.1 (hH.K1 hs rfl) hH.1 hH.2.1 hS i 0 v 4 (r := (RX4, TX4, 3)) (zWd_at hs) rfl (zWd_at hv) rfl hin d (fun H1 locs1 hP1 hD1 hS1 => ?_)
  have hjl : j.toNatClampNeg < rs.length := by
    rcases Nat.lt_or_ge j.toNatClampNeg rs.length with h | h
    · exact h
    · exact absurd (Or.inr h) hin
  have e1 : va_up (zRow ad rs) j.toNatClampNeg (some (ad v)) = zRow ad (rs.set j.toNatClampNeg (some v)) := by
    funext q
    unfold va_up zRow
    by_cases hq : q = j.toNatClampNeg
    · rw [if_pos hq, hq, List.getElem?_set_self hjl]
      rfl
    · rw [if_neg hq, List.getElem?_set_ne (fun z => hq z.symm)]
  have ew : (zWd ad cA S σ).set i (ad i, .inl (cA i, rs.length, .inr (.inr (.inr (.inr (va_up (zRow ad rs) j.toNatClampNeg (some (ad v)))))))) = zWd ad cA (S.set i (.inr (.inl (rs.set j.toNatClampNeg (some v))))) σ := by
    rw [e1, ← zWd_shape hs]
    simp only [zE, List.length_set]
  have hsz : i < S.length := (List.getElem?_eq_some_iff.mp hs).1
  refine kk p l e s m args below meth c D h0 ad0 cA0 n0 ad cA H1 locs1 lsA hC hX hag (by rw [List.length_set]; exact hn0) ⟨by rw [← ew]; exact hP1, by rw [← ew]; exact hD1, hH.2.2.1, fun q sh t h1 h2 => ?_⟩ hS1 hl
  by_cases hj : q = i
  · subst hj
    rw [List.getElem?_set_self hsz] at h1
    cases h1
    exact hH.2.2.2 q _ t hs h2
  · rw [List.getElem?_set_ne (fun z => hj z.symm)] at h1
    exact hH.2.2.2 q sh t h1 h2
theorem za_copy {i0 i1 N0 N1 idx : Nat} {sp dp q : Int32} (d : decode (zB μ) pc = .ok (.invokestatic idx, 3)) (hw : Cond.methodLink (zY μ).cls idx arraycopyName ∈ zwd ∧ Cond.native arraycopyName ∈ zwd ∧ Cond.static arraycopyName ∈ zwd ∧ Cond.initialized "java/lang/System" ∈ zwd) (hs0 : S[i0]? = some (.inl N0)) (hs1 : S[i1]? = some (.inl N1)) (h1 : ¬ sp < 0) (h2 : ¬ dp < 0) (h3 : ¬ q < 0) (h4 : sp.toNatClampNeg + q.toNatClampNeg ≤ N0) (h5 : dp.toNatClampNeg + q.toNatClampNeg ≤ N1) (hdp : 1 ≤ zDp μ) (hst : (st.map fun v => v.category).sum + (nativeFrameWords "java/lang/System" "arraycopy" 5 + 11) ≤ 36) (kk : zA Z μ sc k n (pc + 3) ls st S (zrow σ i1 (va_cpy (σ i0) (σ i1) sp.toNatClampNeg dp.toNatClampNeg q.toNatClampNeg))) : zA Z μ sc k n pc ls (.int q :: .int dp :: .ref i1 :: .int sp :: .ref i0 :: st) S σ := by
  intro p l e s m args below meth c D h0 ad0 cA0 n0 ad cA H locs lsA hC hX hag hn0 hH hS hl
  refine va_copyi hC.1 hC.2.1 (hC.2.2.1.trans hl.1.symm) hC.2.2.2.2.2.1 (hC.2.2.2.2.2.2.1 _ hw.1) (hC.2.2.2.2.2.2.1 _ hw.2.1) (hC.2.2.2.2.2.2.1 _ hw.2.2.1) (hC.2.2.2.2.2.2.1 _ hw.2.2.2) (hH.K2 hs0 rfl hs1 rfl) hH.1 hH.2.1 hS i0 i1 0 1 (zWd_at hs0) (zWd_at hs1) rfl rfl rfl h1 h2 h3 h4 h5 (fun _ _ => rfl) hdp (by
    have e : ((st.map (zC ad)).map fun v => v.category) = st.map fun v => v.category := by
      rw [List.map_map]
      exact List.map_congr_left (fun v _ => zC_cat ad v)
    show _ ≤ 36 * zDp μ
    rw [e]
    omega) d (fun H1 locs1 hP1 hD1 hS1 => ?_)
  have ew : (zWd ad cA S σ).set i1 (ad i1, .inl (cA i1, N1, .inl (va_cpy (σ i0) (σ i1) sp.toNatClampNeg dp.toNatClampNeg q.toNatClampNeg))) = zWd ad cA S (zrow σ i1 (va_cpy (σ i0) (σ i1) sp.toNatClampNeg dp.toNatClampNeg q.toNatClampNeg)) := by
    rw [← zWd_row hs1]
    simp only [zE, zrow_s]
  exact kk p l e s m args below meth c D h0 ad0 cA0 n0 ad cA H1 locs1 lsA hC hX hag hn0 ⟨by rw [← ew]; exact hP1, by rw [← ew]; exact hD1, hH.2.2⟩ hS1 hl
theorem za_sld {L : Nat} {xs : Nat → Int32} {j : Int32} (d : decode (zB μ) pc = .ok (.iaload, 1)) (hin : vp_in j L) (kk : zA Z μ (some (L, xs)) k n (pc + 1) ls (.int (xs j.toNatClampNeg) :: st) S σ) : zA Z μ (some (L, xs)) k n pc ls (.int j :: .ref 999 :: st) S σ := by
  intro p l e s m args below meth c D h0 ad0 cA0 n0 ad cA H locs lsA hC hX hag hn0 hH hS hl
  exact va_sld hC.1 hC.2.1 (hX L xs rfl).1 (Nat.lt_of_lt_of_le (hX L xs rfl).2 hC.2.2.2.2.2.2.2.2.1) (Nat.not_le.mpr (hX L xs rfl).2) hS hin d (kk p l e s m args below meth c D h0 ad0 cA0 n0 ad cA H locs lsA hC hX hag hn0 hH hS hl)
theorem za_slen {L : Nat} {xs : Nat → Int32} (d : decode (zB μ) pc = .ok (.arraylength, 1)) (kk : zA Z μ (some (L, xs)) k n (pc + 1) ls (.int (Int32.ofNat L) :: st) S σ) : zA Z μ (some (L, xs)) k n pc ls (.ref 999 :: st) S σ := by
  intro p l e s m args below meth c D h0 ad0 cA0 n0 ad cA H locs lsA hC hX hag hn0 hH hS hl
  exact va_slen hC.1 hC.2.1 (hX L xs rfl).1 (Nat.lt_of_lt_of_le (hX L xs rfl).2 hC.2.2.2.2.2.2.2.2.1) (Nat.not_le.mpr (hX L xs rfl).2) hS d (kk p l e s m args below meth c D h0 ad0 cA0 n0 ad cA H locs lsA hC hX hag hn0 hH hS hl)
theorem za_ireturn {Q : Option Value → List zSh → zSt → Prop} {x : Int32} (d : decode (zB μ) pc = .ok (.ireturn, 1)) (hr : zR μ = some .int) (hk : k ≤ zMc μ) (hn : n ≤ zMs μ) (hq : Q (some (.int x)) S σ) : zA (zZ μ Q) μ sc k n pc ls [.int x] S σ := by
  intro p l e s m args below meth c D h0 ad0 cA0 n0 ad cA H locs lsA hC hX hag hn0 hH hS hl
  refine W.widen hk hn ?_
  exact W.iret hC.1 hC.2.1 (hC.2.2.2.1.trans hr) (fun t ht hW => ⟨⟨some (.int x), S, σ, ad, cA, hag, hn0, rfl, hq, by rw [ht]; exact hH.moved hW.alike⟩, hS.F ht⟩) hS.2.2 d hC.2.2.2.2.1
theorem za_zreturn {Q : Option Value → List zSh → zSt → Prop} {x : Int32} (d : decode (zB μ) pc = .ok (.ireturn, 1)) (hr : zR μ = some .boolean) (hx : narrow .boolean (.int x) = .int x) (hk : k ≤ zMc μ) (hn : n ≤ zMs μ) (hq : Q (some (.int x)) S σ) : zA (zZ μ Q) μ sc k n pc ls [.int x] S σ := by
  intro p l e s m args below meth c D h0 ad0 cA0 n0 ad cA H locs lsA hC hX hag hn0 hH hS hl
  refine W.widen hk hn ?_
  exact W.zret hC.1 hC.2.1 (hC.2.2.2.1.trans hr) hx (fun t ht hW => ⟨⟨some (.int x), S, σ, ad, cA, hag, hn0, rfl, hq, by rw [ht]; exact hH.moved hW.alike⟩, hS.F ht⟩) hS.2.2 d hC.2.2.2.2.1
theorem za_lreturn {Q : Option Value → List zSh → zSt → Prop} {x : Int64} (d : decode (zB μ) pc = .ok (.lreturn, 1)) (hr : zR μ = some .long) (hk : k ≤ zMc μ) (hn : n ≤ zMs μ) (hq : Q (some (.long x)) S σ) : zA (zZ μ Q) μ sc k n pc ls [.long x] S σ := by
  intro p l e s m args below meth c D h0 ad0 cA0 n0 ad cA H locs lsA hC hX hag hn0 hH hS hl
  refine W.widen hk hn ?_
  exact W.lret hC.1 hC.2.1 (hC.2.2.2.1.trans hr) (fun t ht hW => ⟨⟨some (.long x), S, σ, ad, cA, hag, hn0, rfl, hq, by rw [ht]; exact hH.moved hW.alike⟩, hS.F ht⟩) hS.2.2 d hC.2.2.2.2.1
theorem za_return {Q : Option Value → List zSh → zSt → Prop} (d : decode (zB μ) pc = .ok (.return_, 1)) (hr : zR μ = none) (hk : k ≤ zMc μ) (hn : n ≤ zMs μ) (hq : Q none S σ) : zA (zZ μ Q) μ sc k n pc ls [] S σ := by
  intro p l e s m args below meth c D h0 ad0 cA0 n0 ad cA H locs lsA hC hX hag hn0 hH hS hl
  refine W.widen hk hn ?_
  exact W.vret hC.1 hC.2.1 (hC.2.2.2.1.trans hr) (fun t ht hW => ⟨⟨none, S, σ, ad, cA, hag, hn0, rfl, hq, by rw [ht]; exact hH.moved hW.alike⟩, hS.F ht⟩) hS.2.2 d hC.2.2.2.2.1
theorem za_areturn {Q : Option Value → List zSh → zSt → Prop} {C : String} {r : Nat} (d : decode (zB μ) pc = .ok (.areturn, 1)) (hr : zR μ = some (.object C)) (hk : k ≤ zMc μ) (hn : n ≤ zMs μ) (hq : Q (some (.ref r)) S σ) : zA (zZ μ Q) μ sc k n pc ls [.ref r] S σ := by
  intro p l e s m args below meth c D h0 ad0 cA0 n0 ad cA H locs lsA hC hX hag hn0 hH hS hl
  refine W.widen hk hn ?_
  exact W.aret hC.1 hC.2.1 (hC.2.2.2.1.trans hr) (Or.inl ⟨C, rfl⟩) (Or.inr ⟨_, rfl⟩) (fun t ht hW => ⟨⟨some (.ref r), S, σ, ad, cA, hag, hn0, rfl, hq, by rw [ht]; exact hH.moved hW.alike⟩, hS.F ht⟩) hS.2.2 d hC.2.2.2.2.1
end ZA
end
section
/-! entry, calls and new cells of the judgement -/
def zPc (D : va_G) (h0 : Nat) (ad : Nat → Nat) (cA : Nat → ClassId) (S : List zSh) (σ : zSt) (as : List Value) : Array Value → State → Prop := fun v U => v = (as.map (zC ad)).toArray ∧ h0 ≤ U.heap.size ∧ zHp D h0 ad cA S σ U U.heap ∧ zN U
def zws (μ : zM) : List Cond := .code (zY μ) (zB μ) (zL μ) (zR μ) :: zwd
/-- the contract of a method at arguments and a heap -/
def zMet (μ : zM) (as : List Value) (S : List zSh) (σ : zSt) (Q : Option Value → List zSh → zSt → Prop) : Prop := ∀ (l : Launch) (D : va_G) (h0 : Nat) (ad : Nat → Nat) (cA : Nat → ClassId), Met l (zY μ) (zws μ) (zRm μ) (zPc D h0 ad cA S σ as) (zQc D h0 ad cA S.length Q) (zMc μ) (zMs μ) (fun q => h0 ≤ q)
def zEs (as : List Value) : List (Option Value) := as.flatMap fun v => if v.category = 2 then [some v, none] else [some v]
def zEn (nL : Nat) (as : List Value) : List (Option Value) := zEs as ++ List.replicate (nL - (zEs as).length) none
theorem zEs_len (ad : Nat → Nat) (as : List Value) : (lg_sl (as.map (zC ad))).length = (zEs as).length := by
  induction as with
  | nil => rfl
  | cons v as ih =>
    simp only [lg_sl, zEs, List.map_cons, List.flatMap_cons, List.length_append, zC_cat] at ih ⊢
    rw [ih]
    by_cases h : v.category = 2 <;> simp [h]
theorem zEs_args (ad : Nat → Nat) (as : List Value) : ∀ (off i : Nat) (v : Value), (zEs as)[i]? = some (some v) → (off + i, zC ad v) ∈ lv_args off (as.map (zC ad)) := by
  induction as with
  | nil => intro off i v h; simp [zEs] at h
  | cons u as ih =>
    intro off i v h
    simp only [List.map_cons, lv_args, zC_cat]
    by_cases hc : u.category = 2
    · have e : zEs (u :: as) = some u :: none :: zEs as := by simp [zEs, hc]
      rw [e] at h
      rw [if_pos hc]
      match i, h with
      | 0, h =>
        cases h
        exact List.mem_cons_self
      | 1, h => simp at h
      | i + 2, h =>
        have h2 : (zEs as)[i]? = some (some v) := by simpa using h
        have := ih (off + 2) i v h2
        rw [show off + (i + 2) = off + 2 + i by omega]
        exact List.mem_cons_of_mem _ this
    · have e : zEs (u :: as) = some u :: zEs as := by simp [zEs, hc]
      rw [e] at h
      rw [if_neg hc]
      match i, h with
      | 0, h =>
        cases h
        exact List.mem_cons_self
      | i + 1, h =>
        have h2 : (zEs as)[i]? = some (some v) := by simpa using h
        have := ih (off + 1) i v h2
        rw [show off + (i + 1) = off + 1 + i by omega]
        exact List.mem_cons_of_mem _ this
theorem zEn_args (ad : Nat → Nat) (nL : Nat) (as : List Value) (i : Nat) (v : Value) (h : (zEn nL as)[i]? = some (some v)) : (i, zC ad v) ∈ lv_args 0 (as.map (zC ad)) := by
  unfold zEn at h
  by_cases hi : i < (zEs as).length
  · rw [List.getElem?_append_left hi] at h
    have := zEs_args ad as 0 i v h
    rwa [Nat.zero_add] at this
  · rw [List.getElem?_append_right (by omega)] at h
    have := List.eq_of_mem_replicate (List.mem_of_getElem? h)
    cases this
theorem zMet_of {μ : zM} {as : List Value} {S : List zSh} {σ : zSt} {Q : Option Value → List zSh → zSt → Prop} {ls : List (Option Value)} (hp : plainName (zY μ).cls = true) (hlen : Nat.ble (zEs as).length (zL μ) = true) (he : zEn (zL μ) as = ls) (h : zA (zZ μ Q) μ none 0 0 0 ls [] S σ) : zMet μ as S σ Q := by
  intro l D h0 ad cA
  subst he
  have hlen := Nat.le_of_ble_eq_true hlen
  refine Met.ofW (cc := zB μ) (maxL := zL μ) (ret := zR μ) hp rfl ?_
  intro p e s m args below meth c s₁ B hml hv
  obtain ⟨rfl, hsz, hH, hN⟩ := hv
  have hts := atoms_spec (ws := zws μ) B.pre
  rw [lg_entry_eq]
  have hl := lv_entry (as.map (zC ad)) (n := zL μ) (by rw [zEs_len]; exact hlen)
  exact h p l e s m _ below meth c D h0 ad cA S.length ad cA s.heap [] _ ⟨B.exec, B.bytes, hml, B.returns, B.notSynchronized, findClass_of_methodNamed B.named, fun w hw => hts w (List.mem_cons_of_mem _ hw), hN, hsz, (name_of_methodNamed B.named B.method).1⟩ (fun _ _ h => by cases h) (fun _ _ => ⟨rfl, rfl⟩) (Nat.le_refl _) hH va_S.rf ⟨hl.1, hl.2.1, by simp [zEn]; omega, fun i v hi => hl.2.2 _ (zEn_args ad _ as i v hi)⟩
theorem zMet.mono {μ : zM} {as : List Value} {S : List zSh} {σ : zSt} {Q Q' : Option Value → List zSh → zSt → Prop} (h : zMet μ as S σ Q) (hq : ∀ v S' σ', Q v S' σ' → Q' v S' σ') : zMet μ as S σ Q' := by
  intro l D h0 ad cA p e ha hc hk s m args below hf happ hP hK
  obtain ⟨t, o, h1, h2, h3, ⟨⟨v, S', σ', ad', cA', a1, a2, a3, a4, a5⟩, a6⟩, h4⟩ := h l D h0 ad cA p e ha hc hk s m args below hf happ hP hK
  exact ⟨t, o, h1, h2, h3, ⟨⟨v, S', σ', ad', cA', a1, a2, a3, hq _ _ _ a4, a5⟩, a6⟩, h4⟩
def zokv (N : Nat) : Value → Bool
  | .ref k => Nat.blt k N || Nat.ble 999 k
  | _ => true
def zoko (N : Nat) : Option Value → Bool
  | some v => zokv N v
  | none => true
theorem zokv_C {N : Nat} {ad ad' : Nat → Nat} (h : ∀ i : Nat, i < N ∨ 999 ≤ i → ad' i = ad i) {v : Value} (hv : zokv N v = true) : zC ad' v = zC ad v := by
  cases v with
  | ref k =>
    simp only [zokv, Bool.or_eq_true, Nat.blt_eq, Nat.ble_eq] at hv
    simp only [zC, h k hv]
  | _ => rfl
theorem zokv_map {N : Nat} {ad ad' : Nat → Nat} (h : ∀ i : Nat, i < N ∨ 999 ≤ i → ad' i = ad i) {st : List Value} (hv : st.all (zokv N) = true) : st.map (zC ad') = st.map (zC ad) :=
  List.map_congr_left (fun v hm => zokv_C h (List.all_eq_true.mp hv v hm))
theorem zLs.ad {N nL : Nat} {ad ad' : Nat → Nat} {lsA : Array Slot} {ls : List (Option Value)} (h : ∀ i : Nat, i < N ∨ 999 ≤ i → ad' i = ad i) (hv : ls.all (zoko N) = true) (hl : zLs ad lsA nL ls) : zLs ad' lsA nL ls :=
  ⟨hl.1, hl.2.1, hl.2.2.1, fun i v hi => by rw [zokv_C h (List.all_eq_true.mp hv _ (List.mem_of_getElem? hi))]; exact hl.2.2.2 i v hi⟩
theorem zN.same {u U : State} (h : u.vm = U.vm) (hN : zN u) : zN U := ⟨fun q hq => va_Nw.same rfl h (hN.1 q hq), va_AO.moved (h ▸ Vm.Alike.refl u.vm) hN.2⟩
theorem zPc_blind {D : va_G} {h0 : Nat} {ad : Nat → Nat} {cA : Nat → ClassId} {S : List zSh} {σ : zSt} {as : List Value} : FrameBlind (zPc D h0 ad cA S σ as) := by
  intro a U g mk ⟨h1, h2, h3, h4⟩
  exact ⟨h1, h2, h3.moved (u := U) (U := U.calling g mk a) (Vm.Alike.refl U.vm), zN.same (u := U) (U := U.calling g mk a) rfl h4⟩
/-- what is known of a method that is called with nA arguments -/
def zMk (μ : zM) (nA : Nat) : Prop := Cond.initialized (zY μ).cls ∈ zwd ∧ Cond.code (zY μ) (zB μ) (zL μ) (zR μ) ∈ zwd ∧ ((zY μ).cls ≠ "java/lang/invoke/MethodHandle" ∧ (zY μ).cls ≠ "java/lang/invoke/VarHandle" ∧ (parseMethodDescriptor (zY μ).desc).map (fun d => d.parameters.length) = some nA) ∧ zL μ ≤ 17
def zCV (own : String) (idx : Nat) (μ : zM) (nA : Nat) : Prop := Cond.methodLink own idx (zY μ) ∈ zwd ∧ Cond.instanceMethod (zY μ) ∈ zwd ∧ Cond.selects (zY μ).cls (zY μ) (zY μ) ∈ zwd ∧ zMk μ nA
def zCS (own : String) (idx : Nat) (μ : zM) (nA : Nat) : Prop := Cond.methodLink own idx (zY μ) ∈ zwd ∧ Cond.static (zY μ) ∈ zwd ∧ zMk μ nA
def zCI (own : String) (idx : Nat) (μ : zM) (nA : Nat) : Prop := Cond.methodLink own idx (zY μ) ∈ zwd ∧ Cond.instanceMethod (zY μ) ∈ zwd ∧ (zY μ).name = "<init>" ∧ zR μ = none ∧ zMk μ nA
def zCSN (own : String) (idx : Nat) (μ : zM) (nA : Nat) : Prop := (own, idx, zY μ) ∈ znest ∧ Cond.static (zY μ) ∈ zwd ∧ zMk μ nA
def zCIN (own : String) (idx : Nat) (μ : zM) (nA : Nat) : Prop := (own, idx, zY μ) ∈ znest ∧ Cond.instanceMethod (zY μ) ∈ zwd ∧ (zY μ).name = "<init>" ∧ zR μ = none ∧ zMk μ nA
theorem zws_good {μ : zM} (h : Cond.code (zY μ) (zB μ) (zL μ) (zR μ) ∈ zwd) : GoodIn zwd (zws μ) := fun w hw => by
  rcases List.mem_cons.mp hw with rfl | hw
  · exact zwd_good _ h
  · exact zwd_good _ hw
section ZC
variable {p : Program} {l : Launch} {e : Env} {s : State} {m : MethodId} {args : Array Value} {below : List Frame} {meth : Method} {c : Code} {D : va_G} {h0 : Nat} {ad0 : Nat → Nat} {cA0 : Nat → ClassId} {n0 : Nat} {ad : Nat → Nat} {cA : Nat → ClassId} {H : Heap} {locs : List Loc} {lsA : Array Slot}
variable {Z : zZt} {μ : zM} {sc : Option (Nat × (Nat → Int32))} {k n pc : Nat} {ls : List (Option Value)} {st : List Value} {S : List zSh} {σ : zSt}
theorem z_cont {mc ms : Nat} {st0 : List Value} {Q' : Option Value → List zSh → zSt → Prop} {a : Array Value} (hr : va_Run p l e (zRm μ) s m args below meth c H locs k n mc ms (F0 m pc lsA st0) (st.map (zC ad)) (zQc D h0 ad cA S.length Q' a) (fun q => h0 ≤ q)) (hC : zCx p s m args meth c μ h0) (hX : zSc sc ad s h0) (hag : ∀ i : Nat, i < n0 ∨ 999 ≤ i → ad i = ad0 i ∧ cA i = cA0 i) (hn0 : n0 ≤ S.length) (hS : va_S (fun q => h0 ≤ q) s.heap H locs) (hl : zLs ad lsA (zL μ) ls) (hol : ls.all (zoko S.length) = true) (hos : st.all (zokv S.length) = true)
    (kk : ∀ (v : Option Value) (S' : List zSh) (σ' : zSt), Q' v S' σ' → S.length ≤ S'.length → zA Z μ sc (k + mc) (n + ms) (pc + 3) ls (v.toList ++ st) S' σ') : W p l e (zRm μ) s m args below meth c H locs k n (Z below args s D h0 ad0 cA0 n0) (F0 m pc lsA st0) := by
  intro T hT X
  obtain ⟨v, st₀, t, T', L, hh0, X', hL, e1, e2, ⟨⟨v', S', σ', ad', cA', ha', hn', hv, hq, hH'⟩, hz, hk⟩, st9⟩ := hr T hT X
  have hv : v = v'.map (zC ad') := by cases hv; rfl
  have had : ∀ i : Nat, i < S.length ∨ 999 ≤ i → ad' i = ad i := fun i hi => (ha' i hi).1
  rw [hh0] at hz hk
  have hvm : s.vm.Alike t.vm := by rw [← e2]; exact X'.warmed.alike
  have est : v.toList ++ st.map (zC ad) = (v'.toList ++ st).map (zC ad') := by
    rw [List.map_append, zokv_map had hos, hv]
    cases v' <;> rfl
  obtain ⟨t2, a1, b1⟩ := kk v' S' σ' hq hn' p l e s m args below meth c D h0 ad0 cA0 n0 ad' cA' T'.heap (locs ++ L) lsA hC
    (fun L xs h => by rw [had 999 (Or.inr (Nat.le_refl _))]; exact hX L xs h)
    (fun i hi => by
      have h1 := ha' i (hi.elim (fun h => Or.inl (Nat.lt_of_lt_of_le h hn0)) Or.inr)
      have h2 := hag i hi
      exact ⟨h1.1.trans h2.1, h1.2.trans h2.2⟩)
    (Nat.le_trans hn0 hn') (by rw [e1]; exact hH'.moved hvm.symm)
    ⟨Nat.le_trans hS.1 (by rw [e1]; exact hz), fun q h1 h2 => by rw [e1, hk q (Nat.lt_of_lt_of_le h1 hS.1) h2]; exact hS.2.1 q h1 h2, fun q hq => by
      rcases List.mem_append.mp hq with h | h
      · exact hS.2.2 q h
      · exact hL q h⟩ (hl.ad had hol) T' rfl X'
  refine ⟨t2, st9 t2 ?_, b1⟩
  rw [est]
  exact a1
end ZC
section ZA
variable {Z : zZt} {μ : zM} {sc : Option (Nat × (Nat → Int32))} {k n pc : Nat} {ls : List (Option Value)} {st : List Value} {S : List zSh} {σ : zSt}
theorem zcat_sum (ad : Nat → Nat) (st : List Value) : ((st.map (zC ad)).map fun v => v.category) = st.map fun v => v.category := by
  rw [List.map_map]
  exact List.map_congr_left (fun v _ => zC_cat ad v)
theorem zPc_here {p : Program} {s : State} {m : MethodId} {args : Array Value} {meth : Method} {c : Code} {D : va_G} {h0 : Nat} {ad : Nat → Nat} {cA : Nat → ClassId} {H : Heap} {locs : List Loc} (hC : zCx p s m args meth c μ h0) (hH : zHp D h0 ad cA S σ s H) (hS : va_S (fun q => h0 ≤ q) s.heap H locs) (as : List Value) : ∀ U : State, U.heap = H → s.WarmedH U.vm → zPc D h0 ad cA S σ as (as.map (zC ad)).toArray U := fun U hU hW => ⟨rfl, by rw [hU]; exact Nat.le_trans hC.2.2.2.2.2.2.2.2.1 hS.1, by rw [hU]; exact hH.moved hW.alike, hC.2.2.2.2.2.2.2.1.warm hW⟩
theorem za_callV {μ' : zM} {idx b ci : Nat} {fs : List (Option (Option Nat))} {As : List Value} {Q' : Option Value → List zSh → zSt → Prop} (d : decode (zB μ) pc = .ok (.invokevirtual idx, 3)) (cw : zCV (zY μ).cls idx μ' As.length) (hs : S[b]? = some (.inr (.inr (ci, fs)))) (hci : (zcl[ci]?).map (fun q => q.1) = some (zY μ').cls) (hdp : Nat.ble (zDp μ' + 1) (zDp μ) = true) (hrm : Nat.ble (k + zMc μ') (zMc μ) = true ∧ Nat.ble (n + zMs μ') (zMs μ) = true) (hst : Nat.ble (st.map fun v => v.category).sum 8 = true) (hol : ls.all (zoko S.length) = true) (hos : st.all (zokv S.length) = true) (hM : zMet μ' (.ref b :: As) S σ Q') (kk : ∀ (v : Option Value) (S' : List zSh) (σ' : zSt), Q' v S' σ' → S.length ≤ S'.length → zA Z μ sc (k + zMc μ') (n + zMs μ') (pc + 3) ls (v.toList ++ st) S' σ') : zA Z μ sc k n pc ls (As.reverse ++ .ref b :: st) S σ := by
  intro p l e s m args below meth c D h0 ad0 cA0 n0 ad cA H locs lsA hC hX hag hn0 hH hS hl
  have hdp := Nat.le_of_ble_eq_true hdp
  have hrm1 := Nat.le_of_ble_eq_true hrm.1
  have hrm2 := Nat.le_of_ble_eq_true hrm.2
  have hst := Nat.le_of_ble_eq_true hst

  obtain ⟨c1, c2, c3, mk⟩ := cw
  have hrecv : ∃ cellB : Cell, H[ad b]? = some cellB ∧ cellB.vm.isStatics = false ∧ s.vm.findClass (zY μ').cls = some cellB.cls := by
    cases hq : zcl[ci]? with
    | none => rw [hq] at hci; cases hci
    | some q =>
      rw [hq] at hci
      have hci : q.1 = (zY μ').cls := Option.some.inj hci
      rw [← hci]
      exact va_recv hH.2.2.1 hH.1 hq (zWd_at hs)
  exact z_cont (va_runV (C := (zY μ').cls) (b := ad b) (As := As.map (zC ad)) ⟨hC.1, hC.2.1, hC.2.2.1, hC.2.2.2.2.2.1, hC.2.2.2.2.2.2.1⟩ (hM l D h0 ad cA) ⟨callB_of _ hC.2.2.2.2.2.2.1 (zws_good mk.2.1) rfl rfl rfl (hC.2.2.2.2.2.2.1 _ mk.1) (hC.2.2.2.2.2.2.1 _ c1) mk.2.2.1 ⟨hdp, by show 8 + (zL μ' + 11) + 36 * zDp μ' ≤ 36 * zDp μ; have := mk.2.2.2; omega⟩, hC.2.2.2.2.2.2.1 _ c2, hC.2.2.2.2.2.2.1 _ c3⟩ ⟨zPc_blind, hrecv, zPc_here hC hH hS (.ref b :: As)⟩ rfl (by rw [List.length_map]) hl.1 (by show ((As.reverse ++ .ref b :: st).map (zC ad)) = _; rw [List.map_append, List.map_cons, List.map_reverse]; rfl) (lv_room (by rw [zcat_sum]; exact hst)) d ⟨hrm1, hrm2⟩) hC hX hag hn0 hS hl hol hos kk
theorem za_callS {μ' : zM} {idx : Nat} {As : List Value} {Q' : Option Value → List zSh → zSt → Prop} (d : decode (zB μ) pc = .ok (.invokestatic idx, 3)) (cw : zCS (zY μ).cls idx μ' As.length) (hdp : Nat.ble (zDp μ' + 1) (zDp μ) = true) (hrm : Nat.ble (k + zMc μ') (zMc μ) = true ∧ Nat.ble (n + zMs μ') (zMs μ) = true) (hst : Nat.ble (st.map fun v => v.category).sum 8 = true) (hol : ls.all (zoko S.length) = true) (hos : st.all (zokv S.length) = true) (hM : zMet μ' (As) S σ Q') (kk : ∀ (v : Option Value) (S' : List zSh) (σ' : zSt), Q' v S' σ' → S.length ≤ S'.length → zA Z μ sc (k + zMc μ') (n + zMs μ') (pc + 3) ls (v.toList ++ st) S' σ') : zA Z μ sc k n pc ls (As.reverse ++ st) S σ := by
  intro p l e s m args below meth c D h0 ad0 cA0 n0 ad cA H locs lsA hC hX hag hn0 hH hS hl
  have hdp := Nat.le_of_ble_eq_true hdp
  have hrm1 := Nat.le_of_ble_eq_true hrm.1
  have hrm2 := Nat.le_of_ble_eq_true hrm.2
  have hst := Nat.le_of_ble_eq_true hst

  obtain ⟨c1, c2, mk⟩ := cw
  exact z_cont (va_runS (As := As.map (zC ad)) ⟨hC.1, hC.2.1, hC.2.2.1, hC.2.2.2.2.2.1, hC.2.2.2.2.2.2.1⟩ (hM l D h0 ad cA) ⟨callB_of _ hC.2.2.2.2.2.2.1 (zws_good mk.2.1) rfl rfl rfl (hC.2.2.2.2.2.2.1 _ mk.1) (hC.2.2.2.2.2.2.1 _ c1) mk.2.2.1 ⟨hdp, by show 8 + (zL μ' + 11) + 36 * zDp μ' ≤ 36 * zDp μ; have := mk.2.2.2; omega⟩, hC.2.2.2.2.2.2.1 _ c2⟩ ⟨zPc_blind, zPc_here hC hH hS As⟩ rfl (by rw [List.length_map]) hl.1 (by show ((As.reverse ++ st).map (zC ad)) = _; rw [List.map_append, List.map_reverse]) (lv_room (by rw [zcat_sum]; exact hst)) d ⟨hrm1, hrm2⟩) hC hX hag hn0 hS hl hol hos kk
theorem za_callI {μ' : zM} {idx b : Nat} {As : List Value} {Q' : Option Value → List zSh → zSt → Prop} (d : decode (zB μ) pc = .ok (.invokespecial idx, 3)) (cw : zCI (zY μ).cls idx μ' As.length) (hdp : Nat.ble (zDp μ' + 1) (zDp μ) = true) (hrm : Nat.ble (k + zMc μ') (zMc μ) = true ∧ Nat.ble (n + zMs μ') (zMs μ) = true) (hst : Nat.ble (st.map fun v => v.category).sum 8 = true) (hol : ls.all (zoko S.length) = true) (hos : st.all (zokv S.length) = true) (hM : zMet μ' (.ref b :: As) S σ Q') (kk : ∀ (v : Option Value) (S' : List zSh) (σ' : zSt), Q' v S' σ' → S.length ≤ S'.length → zA Z μ sc (k + zMc μ') (n + zMs μ') (pc + 3) ls (v.toList ++ st) S' σ') : zA Z μ sc k n pc ls (As.reverse ++ .ref b :: st) S σ := by
  intro p l e s m args below meth c D h0 ad0 cA0 n0 ad cA H locs lsA hC hX hag hn0 hH hS hl
  have hdp := Nat.le_of_ble_eq_true hdp
  have hrm1 := Nat.le_of_ble_eq_true hrm.1
  have hrm2 := Nat.le_of_ble_eq_true hrm.2
  have hst := Nat.le_of_ble_eq_true hst

  obtain ⟨c1, c2, c3, c4, mk⟩ := cw
  exact z_cont (va_runI (b := ad b) (As := As.map (zC ad)) ⟨hC.1, hC.2.1, hC.2.2.1, hC.2.2.2.2.2.1, hC.2.2.2.2.2.2.1⟩ (hM l D h0 ad cA) ⟨callB_of _ hC.2.2.2.2.2.2.1 (zws_good mk.2.1) (by unfold zws; rw [c4]) rfl rfl (hC.2.2.2.2.2.2.1 _ mk.1) (hC.2.2.2.2.2.2.1 _ c1) mk.2.2.1 ⟨hdp, by show 8 + (zL μ' + 11) + 36 * zDp μ' ≤ 36 * zDp μ; have := mk.2.2.2; omega⟩, c3, hC.2.2.2.2.2.2.1 _ c2⟩ ⟨zPc_blind, zPc_here hC hH hS (.ref b :: As)⟩ rfl (by rw [List.length_map]) hl.1 (by show ((As.reverse ++ .ref b :: st).map (zC ad)) = _; rw [List.map_append, List.map_cons, List.map_reverse]; rfl) (lv_room (by rw [zcat_sum]; exact hst)) d ⟨hrm1, hrm2⟩) hC hX hag hn0 hS hl hol hos kk
theorem za_callSN {μ' : zM} {idx : Nat} {As : List Value} {Q' : Option Value → List zSh → zSt → Prop} (d : decode (zB μ) pc = .ok (.invokestatic idx, 3)) (cw : zCSN (zY μ).cls idx μ' As.length) (hdp : Nat.ble (zDp μ' + 1) (zDp μ) = true) (hrm : Nat.ble (k + zMc μ') (zMc μ) = true ∧ Nat.ble (n + zMs μ') (zMs μ) = true) (hst : Nat.ble (st.map fun v => v.category).sum 8 = true) (hol : ls.all (zoko S.length) = true) (hos : st.all (zokv S.length) = true) (hM : zMet μ' (As) S σ Q') (kk : ∀ (v : Option Value) (S' : List zSh) (σ' : zSt), Q' v S' σ' → S.length ≤ S'.length → zA Z μ sc (k + zMc μ') (n + zMs μ') (pc + 3) ls (v.toList ++ st) S' σ') : zA Z μ sc k n pc ls (As.reverse ++ st) S σ := by
  intro p l e s m args below meth c D h0 ad0 cA0 n0 ad cA H locs lsA hC hX hag hn0 hH hS hl
  have hdp := Nat.le_of_ble_eq_true hdp
  have hrm1 := Nat.le_of_ble_eq_true hrm.1
  have hrm2 := Nat.le_of_ble_eq_true hrm.2
  have hst := Nat.le_of_ble_eq_true hst

  obtain ⟨c1, c2, mk⟩ := cw
  exact z_cont (va_runSN (host := RX6) (As := As.map (zC ad)) ⟨hC.1, hC.2.1, hC.2.2.1, hC.2.2.2.2.2.1, hC.2.2.2.2.2.2.1⟩ (hM l D h0 ad cA) ⟨va_cnB _ hC.2.2.2.2.2.2.1 (zws_good mk.2.1) rfl rfl rfl (hC.2.2.2.2.2.2.2.1.1 _ c1) (hC.2.2.2.2.2.2.1 _ mk.1) mk.2.2.1 ⟨hdp, by show 8 + (zL μ' + 11) + 36 * zDp μ' ≤ 36 * zDp μ; have := mk.2.2.2; omega⟩, hC.2.2.2.2.2.2.1 _ c2, trivial⟩ ⟨zPc_blind, zPc_here hC hH hS As⟩ rfl (by rw [List.length_map]) hl.1 (by show ((As.reverse ++ st).map (zC ad)) = _; rw [List.map_append, List.map_reverse]) (lv_room (by rw [zcat_sum]; exact hst)) d ⟨hrm1, hrm2⟩) hC hX hag hn0 hS hl hol hos kk
theorem za_callIN {μ' : zM} {idx b : Nat} {As : List Value} {Q' : Option Value → List zSh → zSt → Prop} (d : decode (zB μ) pc = .ok (.invokespecial idx, 3)) (cw : zCIN (zY μ).cls idx μ' As.length) (hdp : Nat.ble (zDp μ' + 1) (zDp μ) = true) (hrm : Nat.ble (k + zMc μ') (zMc μ) = true ∧ Nat.ble (n + zMs μ') (zMs μ) = true) (hst : Nat.ble (st.map fun v => v.category).sum 8 = true) (hol : ls.all (zoko S.length) = true) (hos : st.all (zokv S.length) = true) (hM : zMet μ' (.ref b :: As) S σ Q') (kk : ∀ (v : Option Value) (S' : List zSh) (σ' : zSt), Q' v S' σ' → S.length ≤ S'.length → zA Z μ sc (k + zMc μ') (n + zMs μ') (pc + 3) ls (v.toList ++ st) S' σ') : zA Z μ sc k n pc ls (As.reverse ++ .ref b :: st) S σ := by
  intro p l e s m args below meth c D h0 ad0 cA0 n0 ad cA H locs lsA hC hX hag hn0 hH hS hl
  have hdp := Nat.le_of_ble_eq_true hdp
  have hrm1 := Nat.le_of_ble_eq_true hrm.1
  have hrm2 := Nat.le_of_ble_eq_true hrm.2
  have hst := Nat.le_of_ble_eq_true hst

  obtain ⟨c1, c2, c3, c4, mk⟩ := cw
  exact z_cont (va_runIN (host := RX6) (b := ad b) (As := As.map (zC ad)) ⟨hC.1, hC.2.1, hC.2.2.1, hC.2.2.2.2.2.1, hC.2.2.2.2.2.2.1⟩ (hM l D h0 ad cA) ⟨va_cnB _ hC.2.2.2.2.2.2.1 (zws_good mk.2.1) (by unfold zws; rw [c4]) rfl rfl (hC.2.2.2.2.2.2.2.1.1 _ c1) (hC.2.2.2.2.2.2.1 _ mk.1) mk.2.2.1 ⟨hdp, by show 8 + (zL μ' + 11) + 36 * zDp μ' ≤ 36 * zDp μ; have := mk.2.2.2; omega⟩, c3, hC.2.2.2.2.2.2.1 _ c2⟩ ⟨zPc_blind, zPc_here hC hH hS (.ref b :: As)⟩ rfl (by rw [List.length_map]) hl.1 (by show ((As.reverse ++ .ref b :: st).map (zC ad)) = _; rw [List.map_append, List.map_cons, List.map_reverse]; rfl) (lv_room (by rw [zcat_sum]; exact hst)) d ⟨hrm1, hrm2⟩) hC hX hag hn0 hS hl hol hos kk
theorem za_objInit {idx i : Nat} (d : decode (zB μ) pc = .ok (.invokespecial idx, 3)) (hw : Cond.methodLink (zY μ).cls idx objectInit ∈ zwd ∧ Cond.instanceMethod objectInit ∈ zwd ∧ Cond.code objectInit ⟨#[0xb1]⟩ 1 none ∈ zwd) (hdp : Nat.ble 1 (zDp μ) = true) (hst : Nat.ble ((st.map fun v => v.category).sum + 12) 36 = true) (kk : zA Z μ sc k n (pc + 3) ls st S σ) : zA Z μ sc k n pc ls (.ref i :: st) S σ := by
  intro p l e s m args below meth c D h0 ad0 cA0 n0 ad cA H locs lsA hC hX hag hn0 hH hS hl
  have hdp := Nat.le_of_ble_eq_true hdp
  have hst := Nat.le_of_ble_eq_true hst
  refine W.objInit hC.1 hC.2.1 hC.2.2.2.2.2.1 (hC.2.2.2.2.2.2.1 _ hw.1) (hC.2.2.2.2.2.2.1 _ hw.2.1) (hC.2.2.2.2.2.2.1 _ hw.2.2) rfl (hl.1.trans hC.2.2.1.symm) rfl d hdp ?_ (W.eq rfl (kk p l e s m args below meth c D h0 ad0 cA0 n0 ad cA H locs lsA hC hX hag hn0 hH hS hl))
  show 2 * (F0 m pc lsA _).monitorRoom + ((st.map (zC ad)).map fun v => v.category).sum + 12 ≤ 36 * zDp μ
  rw [zcat_sum]
  have e0 : (F0 m pc lsA ((Value.ref i :: st).map (zC ad))).monitorRoom = 0 := rfl
  omega
end ZA
end
section
/-! new cells -/
def zokr (N : Nat) : Option Nat → Bool
  | some k => Nat.blt k N
  | none => true
def zokSh (N : Nat) : zSh → Bool
  | .inl _ => true
  | .inr (.inl rs) => rs.all (zokr N)
  | .inr (.inr (_, fs)) => fs.all fun o => match o with
    | none => true
    | some r => zokr N r
theorem zokr_map {N : Nat} {ad ad' : Nat → Nat} (h : ∀ i : Nat, i < N → ad' i = ad i) {r : Option Nat} (hr : zokr N r = true) : r.map ad' = r.map ad := by
  cases r with
  | none => rfl
  | some k =>
    simp only [zokr, Nat.blt_eq] at hr
    simp only [Option.map_some, h k hr]
theorem zE_ad {N : Nat} {ad ad' : Nat → Nat} {cA cA' : Nat → ClassId} {σ : zSt} {i : Nat} {sh : zSh} (h : ∀ i : Nat, i < N → ad' i = ad i) (hc : cA' i = cA i) (hs : zokSh N sh = true) : zE ad' cA' σ i sh = zE ad cA σ i sh := by
  rcases sh with x | rs | ⟨ci, fs⟩
  · simp only [zE, hc]
  · have e : zRow ad' rs = zRow ad rs := by
      funext j
      unfold zRow
      cases hj : rs[j]? with
      | none => rfl
      | some r => exact zokr_map h (List.all_eq_true.mp hs r (List.mem_of_getElem? hj))
    simp only [zE, hc, e]
  · have e : fs.mapIdx (zF ad' (σ i)) = fs.mapIdx (zF ad (σ i)) := by
      apply List.ext_getElem?
      intro j
      rw [List.getElem?_mapIdx, List.getElem?_mapIdx]
      cases hj : fs[j]? with
      | none => rfl
      | some o =>
        have ho := List.all_eq_true.mp hs o (List.mem_of_getElem? hj)
        cases o with
        | none => rfl
        | some r => simp only [Option.map_some, zF, zokr_map h ho]
    simp only [zE, e]
theorem zWd_push {ad ad' : Nat → Nat} {cA cA' : Nat → ClassId} {S : List zSh} {σ : zSt} {sh : zSh} {f : Nat → Int32} (h : ∀ i : Nat, i < S.length → ad' i = ad i) (hc : ∀ i : Nat, i < S.length → cA' i = cA i) (hs : S.all (zokSh S.length) = true) : zWd ad' cA' (S ++ [sh]) (zrow σ S.length f) = zWd ad cA S σ ++ [(ad' S.length, zE ad' cA' (zrow σ S.length f) S.length sh)] := by
  apply List.ext_getElem?
  intro j
  have hl : (zWd ad cA S σ).length = S.length := by simp [zWd]
  rcases Nat.lt_trichotomy j S.length with hj | hj | hj
  · rw [List.getElem?_append_left (by rw [hl]; exact hj)]
    simp only [zWd, List.getElem?_mapIdx]
    rw [List.getElem?_append_left hj]
    cases hq : S[j]? with
    | none => rfl
    | some t =>
      simp only [Option.map_some]
      rw [h j hj, zE_n (Nat.ne_of_lt hj), zE_ad h (hc j hj) (List.all_eq_true.mp hs t (List.mem_of_getElem? hq))]
  · subst hj
    rw [List.getElem?_append_right (by rw [hl]; exact Nat.le_refl _), hl, Nat.sub_self]
    rw [zWd_at (sh := sh) (by simp)]
    rfl
  · rw [List.getElem?_eq_none (by simp [zWd]; omega), List.getElem?_eq_none (by simp [zWd]; omega)]
def zDf : FieldType → Option (Option Nat)
  | .object _ => some none
  | .array _ => some none
  | _ => none
def zTok : FieldType → Bool
  | .int => true
  | .boolean => true
  | .object _ => true
  | .array _ => true
  | _ => false
theorem zDf_ok {t : FieldType} (h : zTok t = true) (ad : Nat → Nat) (j : Nat) : defaultValue t = zF ad (fun _ => 0) j (zDf t) := by cases t <;> first | rfl | cases h
section ZA
variable {Z : zZt} {μ : zM} {sc : Option (Nat × (Nat → Int32))} {k n pc : Nat} {ls : List (Option Value)} {st : List Value} {S : List zSh} {σ : zSt}
theorem za_new {idx ci N N9 : Nat} {C : String} {T : u_T} {fs : List (Option (Option Nat))} {S' : List zSh} (d : decode (zB μ) pc = .ok (.new idx, 3)) (hw : Cond.classLink (zY μ).cls idx C ∈ zwd ∧ Cond.instantiable C N ∈ zwd ∧ Cond.initialized C ∈ zwd) (hc : zcl[ci]? = some (C, T, N)) (hfs : (List.range N).map (fun j => zDf (zTf ci j)) = fs) (hty : (List.range N).all (fun j => zTok (zTf ci j)) = true) (hN : S.length = N9) (hok : S.all (zokSh S.length) = true) (h999 : Nat.blt S.length 999 = true) (hol : ls.all (zoko S.length) = true) (hos : st.all (zokv S.length) = true) (hrm : Nat.ble (k + 1) (zMc μ) = true ∧ Nat.ble (n + N) (zMs μ) = true) (he : S ++ [.inr (.inr (ci, fs))] = S') (kk : zA Z μ sc (k + 1) (n + N) (pc + 3) ls (.ref N9 :: st) S' (zrow σ N9 (fun _ => 0))) : zA Z μ sc k n pc ls (st) S σ := by
  intro p l e s m args below meth c D h0 ad0 cA0 n0 ad cA H locs lsA hC hX hag hn0 hH hS hl
  subst hN
  subst he
  have h999 : S.length < 999 := by simpa using h999
  have hrm1 := Nat.le_of_ble_eq_true hrm.1
  have hrm2 := Nat.le_of_ble_eq_true hrm.2
  refine va_new (fs := fs.mapIdx (zF ad (fun _ => 0))) hC.1 hC.2.1 hC.2.2.2.2.2.2.1 (zcl_in _ _ hc) (zTf ci) (zcl_ty _ _ hc) hC.2.2.2.2.2.1 (hC.2.2.2.2.2.2.1 _ hw.1) (hC.2.2.2.2.2.2.1 _ hw.2.1) (hC.2.2.2.2.2.2.1 _ hw.2.2) hH.2.2.1 hH.1 hH.2.1 hS (fun q h => Nat.le_trans hC.2.2.2.2.2.2.2.2.1 h) hc (fun j hj => ?_) hrm1 hrm2 d (fun q H1 hP1 hD1 hS1 => ?_)
  · have h1 : fs[j]? = some (zDf (zTf ci j)) := by
      rw [← hfs]
      simp [hj]
    rw [zDf_ok (List.all_eq_true.mp hty j (List.mem_range.mpr hj)) ad j]
    simp [vp_V, List.getD_eq_getElem?_getD, List.getElem?_mapIdx, h1]
  have efs : fs.mapIdx (zF (fun i => if i = S.length then q else ad i) (fun _ => 0)) = fs.mapIdx (zF ad (fun _ => 0)) := by
    apply List.ext_getElem?
    intro j
    rw [List.getElem?_mapIdx, List.getElem?_mapIdx]
    cases hj : fs[j]? with
    | none => rfl
    | some o =>
      have hm := List.mem_of_getElem? hj
      rw [← hfs] at hm
      obtain ⟨a, -, rfl⟩ := List.mem_map.mp hm
      cases zTf ci a <;> rfl
  have had : ∀ i : Nat, i < S.length ∨ 999 ≤ i → (fun i => if i = S.length then q else ad i) i = ad i := fun i hi => if_neg (by omega)
  have hcc : ∀ i : Nat, i < S.length ∨ 999 ≤ i → (fun i => if i = S.length then cA i else cA i) i = cA i := fun i hi => if_neg (by omega)
  have ew := zWd_push (σ := σ) (sh := .inr (.inr (ci, fs))) (f := fun _ => 0) (ad := ad) (ad' := fun i => if i = S.length then q else ad i) (cA := cA) (cA' := fun i => if i = S.length then cA i else cA i) (S := S) (fun i hi => had i (Or.inl hi)) (fun i hi => hcc i (Or.inl hi)) hok
  have e9 : (zE (fun i => if i = S.length then q else ad i) (fun i => if i = S.length then cA i else cA i) (zrow σ S.length fun _ => 0) S.length (.inr (.inr (ci, fs)))) = .inr (ci, fs.mapIdx (zF ad (fun _ => 0))) := by
    simp only [zE, zrow_s, if_true, efs]
  rw [e9] at ew
  simp only [if_pos] at ew
  have hkk := kk p l e s m args below meth c D h0 ad0 cA0 n0 (fun i => if i = S.length then q else ad i) (fun i => if i = S.length then cA i else cA i) H1 locs lsA hC (fun L xs h => by rw [had 999 (Or.inr (Nat.le_refl _))]; exact hX L xs h) (fun i hi => by
      have h2 := hag i hi
      have hi' : i < S.length ∨ 999 ≤ i := hi.elim (fun h => Or.inl (Nat.lt_of_lt_of_le h hn0)) Or.inr
      exact ⟨(had i hi').trans h2.1, (hcc i hi').trans h2.2⟩) (by rw [List.length_append]; omega) ⟨by rw [ew]; exact hP1, by rw [ew]; exact hD1, hH.2.2.1, fun j sh t h1 h2 => by
      rcases Nat.lt_trichotomy j S.length with hj | hj | hj
      · rw [List.getElem?_append_left hj] at h1
        rw [hcc j (Or.inl hj)]
        exact hH.2.2.2 j sh t h1 h2
      · subst hj
        rw [List.getElem?_append_right (Nat.le_refl _), Nat.sub_self] at h1
        cases h1
        cases h2
      · rw [List.getElem?_append_right (by omega), List.getElem?_eq_none (by simp; omega)] at h1
        cases h1⟩ hS1 (hl.ad had hol)
  rw [List.map_cons, zokv_map had hos] at hkk
  have e8 : zC (fun i => if i = S.length then q else ad i) (.ref S.length) = .ref q := by simp [zC]
  rw [e8] at hkk
  exact hkk
theorem za_newarray {N N9 : Nat} {x : Int32} {S' : List zSh} (d : decode (zB μ) pc = .ok (.newarray .int, 2)) (hw : Cond.arrayClass .int ∈ zwd) (hx : x = nI N) (hNN : Nat.ble N 100000 = true) (hN : S.length = N9) (hok : S.all (zokSh S.length) = true) (h999 : Nat.blt S.length 999 = true) (hol : ls.all (zoko S.length) = true) (hos : st.all (zokv S.length) = true) (hrm : Nat.ble (k + 1) (zMc μ) = true ∧ Nat.ble (n + N) (zMs μ) = true) (he : S ++ [.inl N] = S') (kk : zA Z μ sc (k + 1) (n + N) (pc + 2) ls (.ref N9 :: st) S' (zrow σ N9 (fun _ => 0))) : zA Z μ sc k n pc ls (.int x :: st) S σ := by
  intro p l e s m args below meth c D h0 ad0 cA0 n0 ad cA H locs lsA hC hX hag hn0 hH hS hl
  subst hN
  subst he
  have h999 : S.length < 999 := by simpa using h999
  have hrm1 := Nat.le_of_ble_eq_true hrm.1
  have hrm2 := Nat.le_of_ble_eq_true hrm.2
  have hNN := Nat.le_of_ble_eq_true hNN
  subst hx
  refine va_newa (atype := .int) (ty := .int) (a0 := (N, .inl (fun _ => 0))) hC.1 hC.2.1 (hC.2.2.2.2.2.2.1 _ hw) rfl hH.2.2.1 hH.1 hH.2.1 hS (fun q h => Nat.le_trans hC.2.2.2.2.2.2.2.2.1 h) (fun _ => rfl) (nI_pos (by omega)) (nI_clamp (by omega)) (show N * 4 ≤ 536870912 by omega) hrm1 hrm2 d (fun q cq H1 hK1 hP1 hD1 hS1 => ?_)
  have had : ∀ i : Nat, i < S.length ∨ 999 ≤ i → (fun i => if i = S.length then q else ad i) i = ad i := fun i hi => if_neg (by omega)
  have hcc : ∀ i : Nat, i < S.length ∨ 999 ≤ i → (fun i => if i = S.length then cq else cA i) i = cA i := fun i hi => if_neg (by omega)
  have ew := zWd_push (σ := σ) (sh := .inl N) (f := fun _ => 0) (ad := ad) (ad' := fun i => if i = S.length then q else ad i) (cA := cA) (cA' := fun i => if i = S.length then cq else cA i) (S := S) (fun i hi => had i (Or.inl hi)) (fun i hi => hcc i (Or.inl hi)) hok
  have e9 : (zE (fun i => if i = S.length then q else ad i) (fun i => if i = S.length then cq else cA i) (zrow σ S.length fun _ => 0) S.length (.inl N)) = .inl (cq, N, .inl (fun _ => 0)) := by
    simp only [zE, zrow_s, if_true]
  rw [e9] at ew
  simp only [if_pos] at ew
  have hkk := kk p l e s m args below meth c D h0 ad0 cA0 n0 (fun i => if i = S.length then q else ad i) (fun i => if i = S.length then cq else cA i) H1 locs lsA hC (fun L xs h => by rw [had 999 (Or.inr (Nat.le_refl _))]; exact hX L xs h) (fun i hi => by
      have h2 := hag i hi
      have hi' : i < S.length ∨ 999 ≤ i := hi.elim (fun h => Or.inl (Nat.lt_of_lt_of_le h hn0)) Or.inr
      exact ⟨(had i hi').trans h2.1, (hcc i hi').trans h2.2⟩) (by rw [List.length_append]; omega) ⟨by rw [ew]; exact hP1, by rw [ew]; exact hD1, hH.2.2.1, fun j sh t h1 h2 => by
      rcases Nat.lt_trichotomy j S.length with hj | hj | hj
      · rw [List.getElem?_append_left hj] at h1
        rw [hcc j (Or.inl hj)]
        exact hH.2.2.2 j sh t h1 h2
      · subst hj
        rw [List.getElem?_append_right (Nat.le_refl _), Nat.sub_self] at h1
        cases h1
        cases h2
        have e7 : (fun i => if i = S.length then cq else cA i) S.length = cq := if_pos rfl
        rw [e7]
        exact hK1.2 0 _ rfl
      · rw [List.getElem?_append_right (by omega), List.getElem?_eq_none (by simp; omega)] at h1
        cases h1⟩ hS1 (hl.ad had hol)
  rw [List.map_cons, zokv_map had hos] at hkk
  have e8 : zC (fun i => if i = S.length then q else ad i) (.ref S.length) = .ref q := by simp [zC]
  rw [e8] at hkk
  exact hkk
theorem za_anewarray {N N9 idx : Nat} {x : Int32} {S' : List zSh} (d : decode (zB μ) pc = .ok (.anewarray idx, 3)) (hw : Cond.classLink (zY μ).cls idx RX4 ∈ zwd) (hx : x = nI N) (hNN : Nat.ble N 100000 = true) (hN : S.length = N9) (hok : S.all (zokSh S.length) = true) (h999 : Nat.blt S.length 999 = true) (hol : ls.all (zoko S.length) = true) (hos : st.all (zokv S.length) = true) (hrm : Nat.ble (k + 1) (zMc μ) = true ∧ Nat.ble (n + N) (zMs μ) = true) (he : S ++ [.inr (.inl (List.replicate N none))] = S') (kk : zA Z μ sc (k + 1) (n + N) (pc + 3) ls (.ref N9 :: st) S' (zrow σ N9 (fun _ => 0))) : zA Z μ sc k n pc ls (.int x :: st) S σ := by
  intro p l e s m args below meth c D h0 ad0 cA0 n0 ad cA H locs lsA hC hX hag hn0 hH hS hl
  subst hN
  subst he
  have h999 : S.length < 999 := by simpa using h999
  have hrm1 := Nat.le_of_ble_eq_true hrm.1
  have hrm2 := Nat.le_of_ble_eq_true hrm.2
  have hNN := Nat.le_of_ble_eq_true hNN
  subst hx
  refine va_newq hC.1 hC.2.1 hC.2.2.2.2.2.1 (hC.2.2.2.2.2.2.1 _ hw) hC.2.2.2.2.2.2.2.1.2 hH.2.2.1 hH.1 hH.2.1 hS (fun q h => Nat.le_trans hC.2.2.2.2.2.2.2.2.1 h) (nI_pos (by omega)) (nI_clamp (by omega)) (show N * 4 ≤ 536870912 by omega) hrm1 hrm2 d (fun q cq H1 hK1 hP1 hD1 hS1 => ?_)
  have er : ∀ ad9 : Nat → Nat, zRow ad9 (List.replicate N none) = fun _ => none := by
    intro ad9
    funext j
    unfold zRow
    cases hj : (List.replicate N (none : Option Nat))[j]? with
    | none => rfl
    | some r =>
      have := List.eq_of_mem_replicate (List.mem_of_getElem? hj)
      rw [this]
      rfl
  have had : ∀ i : Nat, i < S.length ∨ 999 ≤ i → (fun i => if i = S.length then q else ad i) i = ad i := fun i hi => if_neg (by omega)
  have hcc : ∀ i : Nat, i < S.length ∨ 999 ≤ i → (fun i => if i = S.length then cq else cA i) i = cA i := fun i hi => if_neg (by omega)
  have ew := zWd_push (σ := σ) (sh := .inr (.inl (List.replicate N none))) (f := fun _ => 0) (ad := ad) (ad' := fun i => if i = S.length then q else ad i) (cA := cA) (cA' := fun i => if i = S.length then cq else cA i) (S := S) (fun i hi => had i (Or.inl hi)) (fun i hi => hcc i (Or.inl hi)) hok
  have e9 : (zE (fun i => if i = S.length then q else ad i) (fun i => if i = S.length then cq else cA i) (zrow σ S.length fun _ => 0) S.length (.inr (.inl (List.replicate N none)))) = .inl (cq, N, .inr (.inr (.inr (.inr (fun _ => none))))) := by
    simp only [zE, zrow_s, if_true, List.length_replicate, er]
  rw [e9] at ew
  simp only [if_pos] at ew
  have hkk := kk p l e s m args below meth c D h0 ad0 cA0 n0 (fun i => if i = S.length then q else ad i) (fun i => if i = S.length then cq else cA i) H1 locs lsA hC (fun L xs h => by rw [had 999 (Or.inr (Nat.le_refl _))]; exact hX L xs h) (fun i hi => by
      have h2 := hag i hi
      have hi' : i < S.length ∨ 999 ≤ i := hi.elim (fun h => Or.inl (Nat.lt_of_lt_of_le h hn0)) Or.inr
      exact ⟨(had i hi').trans h2.1, (hcc i hi').trans h2.2⟩) (by rw [List.length_append]; omega) ⟨by rw [ew]; exact hP1, by rw [ew]; exact hD1, hH.2.2.1, fun j sh t h1 h2 => by
      rcases Nat.lt_trichotomy j S.length with hj | hj | hj
      · rw [List.getElem?_append_left hj] at h1
        rw [hcc j (Or.inl hj)]
        exact hH.2.2.2 j sh t h1 h2
      · subst hj
        rw [List.getElem?_append_right (Nat.le_refl _), Nat.sub_self] at h1
        cases h1
        cases h2
        have e7 : (fun i => if i = S.length then cq else cA i) S.length = cq := if_pos rfl
        rw [e7]
        exact hK1.2 0 _ rfl
      · rw [List.getElem?_append_right (by omega), List.getElem?_eq_none (by simp; omega)] at h1
        cases h1⟩ hS1 (hl.ad had hol)
  rw [List.map_cons, zokv_map had hos] at hkk
  have e8 : zC (fun i => if i = S.length then q else ad i) (.ref S.length) = .ref q := by simp [zC]
  rw [e8] at hkk
  exact hkk
end ZA
end
section
theorem lk_X6_11 : zLk RX6 11 6 0 := ⟨RX6, TX6, 6, rfl, by decide, zwd_of 300 (by decide +kernel) rfl⟩
theorem lp_X6_11 : zLp RX6 11 6 0 true (.array (.object "TwoBenches$Sheet")) := ⟨RX6, TX6, 6, rfl, by decide, zwd_of 300 (by decide +kernel) rfl, rfl, by decide +kernel, rfl⟩
theorem lk_X6_18 : zLk RX6 18 6 1 := ⟨RX6, TX6, 6, rfl, by decide, zwd_of 301 (by decide +kernel) rfl⟩
theorem lp_X6_18 : zLp RX6 18 6 1 true (.object "TwoBenches$Shop") := ⟨RX6, TX6, 6, rfl, by decide, zwd_of 301 (by decide +kernel) rfl, rfl, by decide +kernel, rfl⟩
theorem lk_X6_27 : zLk RX6 27 6 2 := ⟨RX6, TX6, 6, rfl, by decide, zwd_of 302 (by decide +kernel) rfl⟩
theorem lp_X6_27 : zLp RX6 27 6 2 true (.object "TwoBenches$Order") := ⟨RX6, TX6, 6, rfl, by decide, zwd_of 302 (by decide +kernel) rfl, rfl, by decide +kernel, rfl⟩
theorem lk_X6_36 : zLk RX6 36 6 3 := ⟨RX6, TX6, 6, rfl, by decide, zwd_of 303 (by decide +kernel) rfl⟩
theorem lp_X6_36 : zLp RX6 36 6 3 true (.object "TwoBenches$LabelDay") := ⟨RX6, TX6, 6, rfl, by decide, zwd_of 303 (by decide +kernel) rfl, rfl, by decide +kernel, rfl⟩
theorem lk_X6_43 : zLk RX6 43 6 4 := ⟨RX6, TX6, 6, rfl, by decide, zwd_of 304 (by decide +kernel) rfl⟩
theorem lp_X6_43 : zLp RX6 43 6 4 true (.object "TwoBenches$KeptDay") := ⟨RX6, TX6, 6, rfl, by decide, zwd_of 304 (by decide +kernel) rfl, rfl, by decide +kernel, rfl⟩
theorem lk_X6_50 : zLk RX6 50 6 5 := ⟨RX6, TX6, 6, rfl, by decide, zwd_of 305 (by decide +kernel) rfl⟩
theorem lp_X6_50 : zLp RX6 50 6 5 true (.object "TwoBenches$Ring") := ⟨RX6, TX6, 6, rfl, by decide, zwd_of 305 (by decide +kernel) rfl, rfl, by decide +kernel, rfl⟩
theorem lk_X6_74 : zLk RX6 74 4 1 := ⟨RX4, TX4, 3, rfl, by decide, zwd_of 291 (by decide +kernel) rfl⟩
theorem lp_X6_74 : zLp RX6 74 4 1 false .int := ⟨RX4, TX4, 3, rfl, by decide, zwd_of 291 (by decide +kernel) rfl, rfl, by decide +kernel, rfl⟩
theorem lk_X6_78 : zLk RX6 78 4 0 := ⟨RX4, TX4, 3, rfl, by decide, zwd_of 289 (by decide +kernel) rfl⟩
theorem lp_X6_78 : zLp RX6 78 4 0 true (.array .int) := ⟨RX4, TX4, 3, rfl, by decide, zwd_of 289 (by decide +kernel) rfl, rfl, by decide +kernel, rfl⟩
theorem lk_X6_98 : zLk RX6 98 5 5 := ⟨RX5, TX5, 10, rfl, by decide, zwd_of 103 (by decide +kernel) rfl⟩
theorem lp_X6_98 : zLp RX6 98 5 5 false .int := ⟨RX5, TX5, 10, rfl, by decide, zwd_of 103 (by decide +kernel) rfl, rfl, by decide +kernel, rfl⟩
theorem lk_X6_129 : zLk RX6 129 5 0 := ⟨RX5, TX5, 10, rfl, by decide, zwd_of 85 (by decide +kernel) rfl⟩
theorem lp_X6_129 : zLp RX6 129 5 0 true (.array .int) := ⟨RX5, TX5, 10, rfl, by decide, zwd_of 85 (by decide +kernel) rfl, rfl, by decide +kernel, rfl⟩
theorem lk_X6_138 : zLk RX6 138 5 3 := ⟨RX5, TX5, 10, rfl, by decide, zwd_of 93 (by decide +kernel) rfl⟩
theorem lp_X6_138 : zLp RX6 138 5 3 true (.array .int) := ⟨RX5, TX5, 10, rfl, by decide, zwd_of 93 (by decide +kernel) rfl, rfl, by decide +kernel, rfl⟩
theorem lk_X6_141 : zLk RX6 141 5 4 := ⟨RX5, TX5, 10, rfl, by decide, zwd_of 97 (by decide +kernel) rfl⟩
theorem lp_X6_141 : zLp RX6 141 5 4 true (.array .int) := ⟨RX5, TX5, 10, rfl, by decide, zwd_of 97 (by decide +kernel) rfl, rfl, by decide +kernel, rfl⟩
theorem lk_X6_148 : zLk RX6 148 2 0 := ⟨RX2, TX2, 7, rfl, by decide, zwd_of 143 (by decide +kernel) rfl⟩
theorem lp_X6_148 : zLp RX6 148 2 0 true (.array .int) := ⟨RX2, TX2, 7, rfl, by decide, zwd_of 143 (by decide +kernel) rfl, rfl, by decide +kernel, rfl⟩
theorem lk_X6_151 : zLk RX6 151 2 1 := ⟨RX2, TX2, 7, rfl, by decide, zwd_of 145 (by decide +kernel) rfl⟩
theorem lp_X6_151 : zLp RX6 151 2 1 true (.array .int) := ⟨RX2, TX2, 7, rfl, by decide, zwd_of 145 (by decide +kernel) rfl, rfl, by decide +kernel, rfl⟩
theorem lk_X6_154 : zLk RX6 154 2 2 := ⟨RX2, TX2, 7, rfl, by decide, zwd_of 148 (by decide +kernel) rfl⟩
theorem lp_X6_154 : zLp RX6 154 2 2 true (.array .int) := ⟨RX2, TX2, 7, rfl, by decide, zwd_of 148 (by decide +kernel) rfl, rfl, by decide +kernel, rfl⟩
theorem lk_X6_157 : zLk RX6 157 2 3 := ⟨RX2, TX2, 7, rfl, by decide, zwd_of 150 (by decide +kernel) rfl⟩
theorem lp_X6_157 : zLp RX6 157 2 3 true (.array .int) := ⟨RX2, TX2, 7, rfl, by decide, zwd_of 150 (by decide +kernel) rfl, rfl, by decide +kernel, rfl⟩
theorem lk_X6_164 : zLk RX6 164 1 0 := ⟨RX1, TX1, 10, rfl, by decide, zwd_of 177 (by decide +kernel) rfl⟩
theorem lp_X6_164 : zLp RX6 164 1 0 true (.array .int) := ⟨RX1, TX1, 10, rfl, by decide, zwd_of 177 (by decide +kernel) rfl, rfl, by decide +kernel, rfl⟩
theorem lk_X6_167 : zLk RX6 167 1 1 := ⟨RX1, TX1, 10, rfl, by decide, zwd_of 179 (by decide +kernel) rfl⟩
theorem lp_X6_167 : zLp RX6 167 1 1 true (.array .int) := ⟨RX1, TX1, 10, rfl, by decide, zwd_of 179 (by decide +kernel) rfl, rfl, by decide +kernel, rfl⟩
theorem lk_X6_174 : zLk RX6 174 0 1 := ⟨RX0, TX0, 14, rfl, by decide, zwd_of 221 (by decide +kernel) rfl⟩
theorem lp_X6_174 : zLp RX6 174 0 1 true (.array .int) := ⟨RX0, TX0, 14, rfl, by decide, zwd_of 221 (by decide +kernel) rfl, rfl, by decide +kernel, rfl⟩
theorem lk_X6_187 : zLk RX6 187 1 4 := ⟨RX1, TX1, 10, rfl, by decide, zwd_of 185 (by decide +kernel) rfl⟩
theorem lp_X6_187 : zLp RX6 187 1 4 false .int := ⟨RX1, TX1, 10, rfl, by decide, zwd_of 185 (by decide +kernel) rfl, rfl, by decide +kernel, rfl⟩
theorem lk_X6_190 : zLk RX6 190 1 2 := ⟨RX1, TX1, 10, rfl, by decide, zwd_of 181 (by decide +kernel) rfl⟩
theorem lp_X6_190 : zLp RX6 190 1 2 true (.array .int) := ⟨RX1, TX1, 10, rfl, by decide, zwd_of 181 (by decide +kernel) rfl, rfl, by decide +kernel, rfl⟩
theorem lk_X6_193 : zLk RX6 193 1 3 := ⟨RX1, TX1, 10, rfl, by decide, zwd_of 183 (by decide +kernel) rfl⟩
theorem lp_X6_193 : zLp RX6 193 1 3 true (.array .int) := ⟨RX1, TX1, 10, rfl, by decide, zwd_of 183 (by decide +kernel) rfl, rfl, by decide +kernel, rfl⟩
theorem lk_X6_204 : zLk RX6 204 0 2 := ⟨RX0, TX0, 14, rfl, by decide, zwd_of 223 (by decide +kernel) rfl⟩
theorem lp_X6_204 : zLp RX6 204 0 2 false .int := ⟨RX0, TX0, 14, rfl, by decide, zwd_of 223 (by decide +kernel) rfl, rfl, by decide +kernel, rfl⟩
theorem lk_X6_205 : zLk RX6 205 0 0 := ⟨RX0, TX0, 14, rfl, by decide, zwd_of 219 (by decide +kernel) rfl⟩
theorem lp_X6_205 : zLp RX6 205 0 0 true (.array .int) := ⟨RX0, TX0, 14, rfl, by decide, zwd_of 219 (by decide +kernel) rfl, rfl, by decide +kernel, rfl⟩
theorem lk_X6_219 : zLk RX6 219 5 6 := ⟨RX5, TX5, 10, rfl, by decide, zwd_of 105 (by decide +kernel) rfl⟩
theorem lp_X6_219 : zLp RX6 219 5 6 false .int := ⟨RX5, TX5, 10, rfl, by decide, zwd_of 105 (by decide +kernel) rfl, rfl, by decide +kernel, rfl⟩
theorem lk_X6_225 : zLk RX6 225 2 4 := ⟨RX2, TX2, 7, rfl, by decide, zwd_of 152 (by decide +kernel) rfl⟩
theorem lp_X6_225 : zLp RX6 225 2 4 false .int := ⟨RX2, TX2, 7, rfl, by decide, zwd_of 152 (by decide +kernel) rfl, rfl, by decide +kernel, rfl⟩
theorem lk_X6_232 : zLk RX6 232 5 1 := ⟨RX5, TX5, 10, rfl, by decide, zwd_of 88 (by decide +kernel) rfl⟩
theorem lp_X6_232 : zLp RX6 232 5 1 true (.array .int) := ⟨RX5, TX5, 10, rfl, by decide, zwd_of 88 (by decide +kernel) rfl, rfl, by decide +kernel, rfl⟩
theorem lk_X6_235 : zLk RX6 235 5 2 := ⟨RX5, TX5, 10, rfl, by decide, zwd_of 91 (by decide +kernel) rfl⟩
theorem lp_X6_235 : zLp RX6 235 5 2 true (.array .int) := ⟨RX5, TX5, 10, rfl, by decide, zwd_of 91 (by decide +kernel) rfl, rfl, by decide +kernel, rfl⟩
theorem lk_X0_9 : zLk RX0 9 0 0 := ⟨RX0, TX0, 14, rfl, by decide, zwd_of 218 (by decide +kernel) rfl⟩
theorem lp_X0_9 : zLp RX0 9 0 0 true (.array .int) := ⟨RX0, TX0, 14, rfl, by decide, zwd_of 218 (by decide +kernel) rfl, rfl, by decide +kernel, rfl⟩
theorem lk_X0_15 : zLk RX0 15 0 1 := ⟨RX0, TX0, 14, rfl, by decide, zwd_of 220 (by decide +kernel) rfl⟩
theorem lp_X0_15 : zLp RX0 15 0 1 true (.array .int) := ⟨RX0, TX0, 14, rfl, by decide, zwd_of 220 (by decide +kernel) rfl, rfl, by decide +kernel, rfl⟩
theorem lk_X0_18 : zLk RX0 18 0 2 := ⟨RX0, TX0, 14, rfl, by decide, zwd_of 222 (by decide +kernel) rfl⟩
theorem lp_X0_18 : zLp RX0 18 0 2 false .int := ⟨RX0, TX0, 14, rfl, by decide, zwd_of 222 (by decide +kernel) rfl, rfl, by decide +kernel, rfl⟩
theorem lk_X0_22 : zLk RX0 22 0 5 := ⟨RX0, TX0, 14, rfl, by decide, zwd_of 226 (by decide +kernel) rfl⟩
theorem lp_X0_22 : zLp RX0 22 0 5 true (.array .int) := ⟨RX0, TX0, 14, rfl, by decide, zwd_of 226 (by decide +kernel) rfl, rfl, by decide +kernel, rfl⟩
theorem lk_X0_25 : zLk RX0 25 0 6 := ⟨RX0, TX0, 14, rfl, by decide, zwd_of 227 (by decide +kernel) rfl⟩
theorem lp_X0_25 : zLp RX0 25 0 6 true (.array .int) := ⟨RX0, TX0, 14, rfl, by decide, zwd_of 227 (by decide +kernel) rfl, rfl, by decide +kernel, rfl⟩
theorem lk_X0_28 : zLk RX0 28 0 7 := ⟨RX0, TX0, 14, rfl, by decide, zwd_of 228 (by decide +kernel) rfl⟩
theorem lp_X0_28 : zLp RX0 28 0 7 true (.array .int) := ⟨RX0, TX0, 14, rfl, by decide, zwd_of 228 (by decide +kernel) rfl, rfl, by decide +kernel, rfl⟩
theorem lk_X0_31 : zLk RX0 31 0 8 := ⟨RX0, TX0, 14, rfl, by decide, zwd_of 229 (by decide +kernel) rfl⟩
theorem lp_X0_31 : zLp RX0 31 0 8 true (.array .int) := ⟨RX0, TX0, 14, rfl, by decide, zwd_of 229 (by decide +kernel) rfl, rfl, by decide +kernel, rfl⟩
theorem lk_X0_34 : zLk RX0 34 0 9 := ⟨RX0, TX0, 14, rfl, by decide, zwd_of 230 (by decide +kernel) rfl⟩
theorem lp_X0_34 : zLp RX0 34 0 9 true (.array .int) := ⟨RX0, TX0, 14, rfl, by decide, zwd_of 230 (by decide +kernel) rfl, rfl, by decide +kernel, rfl⟩
theorem lk_X0_37 : zLk RX0 37 0 10 := ⟨RX0, TX0, 14, rfl, by decide, zwd_of 231 (by decide +kernel) rfl⟩
theorem lp_X0_37 : zLp RX0 37 0 10 false .int := ⟨RX0, TX0, 14, rfl, by decide, zwd_of 231 (by decide +kernel) rfl, rfl, by decide +kernel, rfl⟩
theorem lk_X0_40 : zLk RX0 40 0 11 := ⟨RX0, TX0, 14, rfl, by decide, zwd_of 232 (by decide +kernel) rfl⟩
theorem lp_X0_40 : zLp RX0 40 0 11 true (.array .int) := ⟨RX0, TX0, 14, rfl, by decide, zwd_of 232 (by decide +kernel) rfl, rfl, by decide +kernel, rfl⟩
theorem lk_X0_43 : zLk RX0 43 0 12 := ⟨RX0, TX0, 14, rfl, by decide, zwd_of 233 (by decide +kernel) rfl⟩
theorem lp_X0_43 : zLp RX0 43 0 12 true (.array .int) := ⟨RX0, TX0, 14, rfl, by decide, zwd_of 233 (by decide +kernel) rfl, rfl, by decide +kernel, rfl⟩
theorem lk_X0_46 : zLk RX0 46 0 13 := ⟨RX0, TX0, 14, rfl, by decide, zwd_of 234 (by decide +kernel) rfl⟩
theorem lp_X0_46 : zLp RX0 46 0 13 false .int := ⟨RX0, TX0, 14, rfl, by decide, zwd_of 234 (by decide +kernel) rfl, rfl, by decide +kernel, rfl⟩
theorem lk_X0_49 : zLk RX0 49 0 3 := ⟨RX0, TX0, 14, rfl, by decide, zwd_of 224 (by decide +kernel) rfl⟩
theorem lp_X0_49 : zLp RX0 49 0 3 true (.object "TwoBenches$Shop") := ⟨RX0, TX0, 14, rfl, by decide, zwd_of 224 (by decide +kernel) rfl, rfl, by decide +kernel, rfl⟩
theorem lk_X0_53 : zLk RX0 53 0 4 := ⟨RX0, TX0, 14, rfl, by decide, zwd_of 225 (by decide +kernel) rfl⟩
theorem lp_X0_53 : zLp RX0 53 0 4 true (.object "TwoBenches$Order") := ⟨RX0, TX0, 14, rfl, by decide, zwd_of 225 (by decide +kernel) rfl, rfl, by decide +kernel, rfl⟩
theorem lk_X0_57 : zLk RX0 57 5 7 := ⟨RX5, TX5, 10, rfl, by decide, zwd_of 109 (by decide +kernel) rfl⟩
theorem lp_X0_57 : zLp RX0 57 5 7 false .int := ⟨RX5, TX5, 10, rfl, by decide, zwd_of 109 (by decide +kernel) rfl, rfl, by decide +kernel, rfl⟩
theorem lk_X0_89 : zLk RX0 89 5 5 := ⟨RX5, TX5, 10, rfl, by decide, zwd_of 99 (by decide +kernel) rfl⟩
theorem lp_X0_89 : zLp RX0 89 5 5 false .int := ⟨RX5, TX5, 10, rfl, by decide, zwd_of 99 (by decide +kernel) rfl, rfl, by decide +kernel, rfl⟩
theorem lk_X0_92 : zLk RX0 92 2 0 := ⟨RX2, TX2, 7, rfl, by decide, zwd_of 141 (by decide +kernel) rfl⟩
theorem lp_X0_92 : zLp RX0 92 2 0 true (.array .int) := ⟨RX2, TX2, 7, rfl, by decide, zwd_of 141 (by decide +kernel) rfl, rfl, by decide +kernel, rfl⟩
theorem lk_X0_117 : zLk RX0 117 5 1 := ⟨RX5, TX5, 10, rfl, by decide, zwd_of 87 (by decide +kernel) rfl⟩
theorem lp_X0_117 : zLp RX0 117 5 1 true (.array .int) := ⟨RX5, TX5, 10, rfl, by decide, zwd_of 87 (by decide +kernel) rfl, rfl, by decide +kernel, rfl⟩
theorem lk_X0_126 : zLk RX0 126 5 2 := ⟨RX5, TX5, 10, rfl, by decide, zwd_of 90 (by decide +kernel) rfl⟩
theorem lp_X0_126 : zLp RX0 126 5 2 true (.array .int) := ⟨RX5, TX5, 10, rfl, by decide, zwd_of 90 (by decide +kernel) rfl, rfl, by decide +kernel, rfl⟩
theorem lk_X1_9 : zLk RX1 9 1 0 := ⟨RX1, TX1, 10, rfl, by decide, zwd_of 176 (by decide +kernel) rfl⟩
theorem lp_X1_9 : zLp RX1 9 1 0 true (.array .int) := ⟨RX1, TX1, 10, rfl, by decide, zwd_of 176 (by decide +kernel) rfl, rfl, by decide +kernel, rfl⟩
theorem lk_X1_15 : zLk RX1 15 1 1 := ⟨RX1, TX1, 10, rfl, by decide, zwd_of 178 (by decide +kernel) rfl⟩
theorem lp_X1_15 : zLp RX1 15 1 1 true (.array .int) := ⟨RX1, TX1, 10, rfl, by decide, zwd_of 178 (by decide +kernel) rfl, rfl, by decide +kernel, rfl⟩
theorem lk_X1_18 : zLk RX1 18 1 2 := ⟨RX1, TX1, 10, rfl, by decide, zwd_of 180 (by decide +kernel) rfl⟩
theorem lp_X1_18 : zLp RX1 18 1 2 true (.array .int) := ⟨RX1, TX1, 10, rfl, by decide, zwd_of 180 (by decide +kernel) rfl, rfl, by decide +kernel, rfl⟩
theorem lk_X1_21 : zLk RX1 21 1 3 := ⟨RX1, TX1, 10, rfl, by decide, zwd_of 182 (by decide +kernel) rfl⟩
theorem lp_X1_21 : zLp RX1 21 1 3 true (.array .int) := ⟨RX1, TX1, 10, rfl, by decide, zwd_of 182 (by decide +kernel) rfl, rfl, by decide +kernel, rfl⟩
theorem lk_X1_24 : zLk RX1 24 1 4 := ⟨RX1, TX1, 10, rfl, by decide, zwd_of 184 (by decide +kernel) rfl⟩
theorem lp_X1_24 : zLp RX1 24 1 4 false .int := ⟨RX1, TX1, 10, rfl, by decide, zwd_of 184 (by decide +kernel) rfl, rfl, by decide +kernel, rfl⟩
theorem lk_X1_28 : zLk RX1 28 1 7 := ⟨RX1, TX1, 10, rfl, by decide, zwd_of 188 (by decide +kernel) rfl⟩
theorem lp_X1_28 : zLp RX1 28 1 7 true (.array .int) := ⟨RX1, TX1, 10, rfl, by decide, zwd_of 188 (by decide +kernel) rfl, rfl, by decide +kernel, rfl⟩
theorem lk_X1_31 : zLk RX1 31 1 8 := ⟨RX1, TX1, 10, rfl, by decide, zwd_of 189 (by decide +kernel) rfl⟩
theorem lp_X1_31 : zLp RX1 31 1 8 true (.array .int) := ⟨RX1, TX1, 10, rfl, by decide, zwd_of 189 (by decide +kernel) rfl, rfl, by decide +kernel, rfl⟩
theorem lk_X1_34 : zLk RX1 34 1 9 := ⟨RX1, TX1, 10, rfl, by decide, zwd_of 190 (by decide +kernel) rfl⟩
theorem lp_X1_34 : zLp RX1 34 1 9 false .int := ⟨RX1, TX1, 10, rfl, by decide, zwd_of 190 (by decide +kernel) rfl, rfl, by decide +kernel, rfl⟩
theorem lk_X1_37 : zLk RX1 37 1 5 := ⟨RX1, TX1, 10, rfl, by decide, zwd_of 186 (by decide +kernel) rfl⟩
theorem lp_X1_37 : zLp RX1 37 1 5 true (.object "TwoBenches$Shop") := ⟨RX1, TX1, 10, rfl, by decide, zwd_of 186 (by decide +kernel) rfl, rfl, by decide +kernel, rfl⟩
theorem lk_X1_41 : zLk RX1 41 1 6 := ⟨RX1, TX1, 10, rfl, by decide, zwd_of 187 (by decide +kernel) rfl⟩
theorem lp_X1_41 : zLp RX1 41 1 6 true (.object "TwoBenches$Order") := ⟨RX1, TX1, 10, rfl, by decide, zwd_of 187 (by decide +kernel) rfl, rfl, by decide +kernel, rfl⟩
theorem lk_X1_45 : zLk RX1 45 5 7 := ⟨RX5, TX5, 10, rfl, by decide, zwd_of 108 (by decide +kernel) rfl⟩
theorem lp_X1_45 : zLp RX1 45 5 7 false .int := ⟨RX5, TX5, 10, rfl, by decide, zwd_of 108 (by decide +kernel) rfl, rfl, by decide +kernel, rfl⟩
theorem lk_X1_67 : zLk RX1 67 5 5 := ⟨RX5, TX5, 10, rfl, by decide, zwd_of 102 (by decide +kernel) rfl⟩
theorem lp_X1_67 : zLp RX1 67 5 5 false .int := ⟨RX5, TX5, 10, rfl, by decide, zwd_of 102 (by decide +kernel) rfl, rfl, by decide +kernel, rfl⟩
theorem lk_X1_88 : zLk RX1 88 2 2 := ⟨RX2, TX2, 7, rfl, by decide, zwd_of 147 (by decide +kernel) rfl⟩
theorem lp_X1_88 : zLp RX1 88 2 2 true (.array .int) := ⟨RX2, TX2, 7, rfl, by decide, zwd_of 147 (by decide +kernel) rfl, rfl, by decide +kernel, rfl⟩
theorem lk_X1_102 : zLk RX1 102 2 0 := ⟨RX2, TX2, 7, rfl, by decide, zwd_of 142 (by decide +kernel) rfl⟩
theorem lp_X1_102 : zLp RX1 102 2 0 true (.array .int) := ⟨RX2, TX2, 7, rfl, by decide, zwd_of 142 (by decide +kernel) rfl, rfl, by decide +kernel, rfl⟩
theorem lk_X2_9 : zLk RX2 9 2 0 := ⟨RX2, TX2, 7, rfl, by decide, zwd_of 140 (by decide +kernel) rfl⟩
theorem lp_X2_9 : zLp RX2 9 2 0 true (.array .int) := ⟨RX2, TX2, 7, rfl, by decide, zwd_of 140 (by decide +kernel) rfl, rfl, by decide +kernel, rfl⟩
theorem lk_X2_15 : zLk RX2 15 2 1 := ⟨RX2, TX2, 7, rfl, by decide, zwd_of 144 (by decide +kernel) rfl⟩
theorem lp_X2_15 : zLp RX2 15 2 1 true (.array .int) := ⟨RX2, TX2, 7, rfl, by decide, zwd_of 144 (by decide +kernel) rfl, rfl, by decide +kernel, rfl⟩
theorem lk_X2_18 : zLk RX2 18 2 2 := ⟨RX2, TX2, 7, rfl, by decide, zwd_of 146 (by decide +kernel) rfl⟩
theorem lp_X2_18 : zLp RX2 18 2 2 true (.array .int) := ⟨RX2, TX2, 7, rfl, by decide, zwd_of 146 (by decide +kernel) rfl, rfl, by decide +kernel, rfl⟩
theorem lk_X2_21 : zLk RX2 21 2 3 := ⟨RX2, TX2, 7, rfl, by decide, zwd_of 149 (by decide +kernel) rfl⟩
theorem lp_X2_21 : zLp RX2 21 2 3 true (.array .int) := ⟨RX2, TX2, 7, rfl, by decide, zwd_of 149 (by decide +kernel) rfl, rfl, by decide +kernel, rfl⟩
theorem lk_X2_24 : zLk RX2 24 2 4 := ⟨RX2, TX2, 7, rfl, by decide, zwd_of 151 (by decide +kernel) rfl⟩
theorem lp_X2_24 : zLp RX2 24 2 4 false .int := ⟨RX2, TX2, 7, rfl, by decide, zwd_of 151 (by decide +kernel) rfl, rfl, by decide +kernel, rfl⟩
theorem lk_X2_28 : zLk RX2 28 2 6 := ⟨RX2, TX2, 7, rfl, by decide, zwd_of 154 (by decide +kernel) rfl⟩
theorem lp_X2_28 : zLp RX2 28 2 6 false .int := ⟨RX2, TX2, 7, rfl, by decide, zwd_of 154 (by decide +kernel) rfl, rfl, by decide +kernel, rfl⟩
theorem lk_X2_31 : zLk RX2 31 2 5 := ⟨RX2, TX2, 7, rfl, by decide, zwd_of 153 (by decide +kernel) rfl⟩
theorem lp_X2_31 : zLp RX2 31 2 5 true (.object "TwoBenches$Shop") := ⟨RX2, TX2, 7, rfl, by decide, zwd_of 153 (by decide +kernel) rfl, rfl, by decide +kernel, rfl⟩
theorem lk_X2_35 : zLk RX2 35 5 7 := ⟨RX5, TX5, 10, rfl, by decide, zwd_of 107 (by decide +kernel) rfl⟩
theorem lp_X2_35 : zLp RX2 35 5 7 false .int := ⟨RX5, TX5, 10, rfl, by decide, zwd_of 107 (by decide +kernel) rfl, rfl, by decide +kernel, rfl⟩
theorem lk_X2_56 : zLk RX2 56 5 4 := ⟨RX5, TX5, 10, rfl, by decide, zwd_of 96 (by decide +kernel) rfl⟩
theorem lp_X2_56 : zLp RX2 56 5 4 true (.array .int) := ⟨RX5, TX5, 10, rfl, by decide, zwd_of 96 (by decide +kernel) rfl, rfl, by decide +kernel, rfl⟩
theorem lk_X2_59 : zLk RX2 59 5 5 := ⟨RX5, TX5, 10, rfl, by decide, zwd_of 101 (by decide +kernel) rfl⟩
theorem lp_X2_59 : zLp RX2 59 5 5 false .int := ⟨RX5, TX5, 10, rfl, by decide, zwd_of 101 (by decide +kernel) rfl, rfl, by decide +kernel, rfl⟩
theorem lk_X3_9 : zLk RX3 9 3 1 := ⟨RX3, TX3, 4, rfl, by decide, zwd_of 271 (by decide +kernel) rfl⟩
theorem lp_X3_9 : zLp RX3 9 3 1 true (.array .int) := ⟨RX3, TX3, 4, rfl, by decide, zwd_of 271 (by decide +kernel) rfl, rfl, by decide +kernel, rfl⟩
theorem lk_X3_15 : zLk RX3 15 3 2 := ⟨RX3, TX3, 4, rfl, by decide, zwd_of 272 (by decide +kernel) rfl⟩
theorem lp_X3_15 : zLp RX3 15 3 2 true (.array .int) := ⟨RX3, TX3, 4, rfl, by decide, zwd_of 272 (by decide +kernel) rfl, rfl, by decide +kernel, rfl⟩
theorem lk_X3_18 : zLk RX3 18 3 3 := ⟨RX3, TX3, 4, rfl, by decide, zwd_of 273 (by decide +kernel) rfl⟩
theorem lp_X3_18 : zLp RX3 18 3 3 false .int := ⟨RX3, TX3, 4, rfl, by decide, zwd_of 273 (by decide +kernel) rfl, rfl, by decide +kernel, rfl⟩
theorem lk_X3_22 : zLk RX3 22 3 0 := ⟨RX3, TX3, 4, rfl, by decide, zwd_of 270 (by decide +kernel) rfl⟩
theorem lp_X3_22 : zLp RX3 22 3 0 true (.object "TwoBenches$Shop") := ⟨RX3, TX3, 4, rfl, by decide, zwd_of 270 (by decide +kernel) rfl, rfl, by decide +kernel, rfl⟩
theorem lk_X3_44 : zLk RX3 44 5 5 := ⟨RX5, TX5, 10, rfl, by decide, zwd_of 100 (by decide +kernel) rfl⟩
theorem lp_X3_44 : zLp RX3 44 5 5 false .int := ⟨RX5, TX5, 10, rfl, by decide, zwd_of 100 (by decide +kernel) rfl, rfl, by decide +kernel, rfl⟩
theorem lk_X3_53 : zLk RX3 53 5 4 := ⟨RX5, TX5, 10, rfl, by decide, zwd_of 95 (by decide +kernel) rfl⟩
theorem lp_X3_53 : zLp RX3 53 5 4 true (.array .int) := ⟨RX5, TX5, 10, rfl, by decide, zwd_of 95 (by decide +kernel) rfl, rfl, by decide +kernel, rfl⟩
theorem lk_X4_9 : zLk RX4 9 4 0 := ⟨RX4, TX4, 3, rfl, by decide, zwd_of 288 (by decide +kernel) rfl⟩
theorem lp_X4_9 : zLp RX4 9 4 0 true (.array .int) := ⟨RX4, TX4, 3, rfl, by decide, zwd_of 288 (by decide +kernel) rfl, rfl, by decide +kernel, rfl⟩
theorem lk_X4_15 : zLk RX4 15 4 1 := ⟨RX4, TX4, 3, rfl, by decide, zwd_of 290 (by decide +kernel) rfl⟩
theorem lp_X4_15 : zLp RX4 15 4 1 false .int := ⟨RX4, TX4, 3, rfl, by decide, zwd_of 290 (by decide +kernel) rfl, rfl, by decide +kernel, rfl⟩
theorem lk_X4_19 : zLk RX4 19 4 2 := ⟨RX4, TX4, 3, rfl, by decide, zwd_of 292 (by decide +kernel) rfl⟩
theorem lp_X4_19 : zLp RX4 19 4 2 false .int := ⟨RX4, TX4, 3, rfl, by decide, zwd_of 292 (by decide +kernel) rfl, rfl, by decide +kernel, rfl⟩
theorem lk_X5_9 : zLk RX5 9 5 0 := ⟨RX5, TX5, 10, rfl, by decide, zwd_of 84 (by decide +kernel) rfl⟩
theorem lp_X5_9 : zLp RX5 9 5 0 true (.array .int) := ⟨RX5, TX5, 10, rfl, by decide, zwd_of 84 (by decide +kernel) rfl, rfl, by decide +kernel, rfl⟩
theorem lk_X5_15 : zLk RX5 15 5 1 := ⟨RX5, TX5, 10, rfl, by decide, zwd_of 86 (by decide +kernel) rfl⟩
theorem lp_X5_15 : zLp RX5 15 5 1 true (.array .int) := ⟨RX5, TX5, 10, rfl, by decide, zwd_of 86 (by decide +kernel) rfl, rfl, by decide +kernel, rfl⟩
theorem lk_X5_18 : zLk RX5 18 5 2 := ⟨RX5, TX5, 10, rfl, by decide, zwd_of 89 (by decide +kernel) rfl⟩
theorem lp_X5_18 : zLp RX5 18 5 2 true (.array .int) := ⟨RX5, TX5, 10, rfl, by decide, zwd_of 89 (by decide +kernel) rfl, rfl, by decide +kernel, rfl⟩
theorem lk_X5_21 : zLk RX5 21 5 3 := ⟨RX5, TX5, 10, rfl, by decide, zwd_of 92 (by decide +kernel) rfl⟩
theorem lp_X5_21 : zLp RX5 21 5 3 true (.array .int) := ⟨RX5, TX5, 10, rfl, by decide, zwd_of 92 (by decide +kernel) rfl, rfl, by decide +kernel, rfl⟩
theorem lk_X5_24 : zLk RX5 24 5 4 := ⟨RX5, TX5, 10, rfl, by decide, zwd_of 94 (by decide +kernel) rfl⟩
theorem lp_X5_24 : zLp RX5 24 5 4 true (.array .int) := ⟨RX5, TX5, 10, rfl, by decide, zwd_of 94 (by decide +kernel) rfl, rfl, by decide +kernel, rfl⟩
theorem lk_X5_27 : zLk RX5 27 5 5 := ⟨RX5, TX5, 10, rfl, by decide, zwd_of 98 (by decide +kernel) rfl⟩
theorem lp_X5_27 : zLp RX5 27 5 5 false .int := ⟨RX5, TX5, 10, rfl, by decide, zwd_of 98 (by decide +kernel) rfl, rfl, by decide +kernel, rfl⟩
theorem lk_X5_31 : zLk RX5 31 5 6 := ⟨RX5, TX5, 10, rfl, by decide, zwd_of 104 (by decide +kernel) rfl⟩
theorem lp_X5_31 : zLp RX5 31 5 6 false .int := ⟨RX5, TX5, 10, rfl, by decide, zwd_of 104 (by decide +kernel) rfl, rfl, by decide +kernel, rfl⟩
theorem lk_X5_34 : zLk RX5 34 5 7 := ⟨RX5, TX5, 10, rfl, by decide, zwd_of 106 (by decide +kernel) rfl⟩
theorem lp_X5_34 : zLp RX5 34 5 7 false .int := ⟨RX5, TX5, 10, rfl, by decide, zwd_of 106 (by decide +kernel) rfl, rfl, by decide +kernel, rfl⟩
theorem lk_X5_37 : zLk RX5 37 5 8 := ⟨RX5, TX5, 10, rfl, by decide, zwd_of 110 (by decide +kernel) rfl⟩
theorem lp_X5_37 : zLp RX5 37 5 8 true (.array .int) := ⟨RX5, TX5, 10, rfl, by decide, zwd_of 110 (by decide +kernel) rfl, rfl, by decide +kernel, rfl⟩
theorem lk_X5_40 : zLk RX5 40 5 9 := ⟨RX5, TX5, 10, rfl, by decide, zwd_of 111 (by decide +kernel) rfl⟩
theorem lp_X5_40 : zLp RX5 40 5 9 true (.array .int) := ⟨RX5, TX5, 10, rfl, by decide, zwd_of 111 (by decide +kernel) rfl, rfl, by decide +kernel, rfl⟩
theorem lk_X7_7 : zLk RX7 7 7 0 := ⟨RX7, TX7, 28, rfl, by decide, zwd_of 685 (by decide +kernel) rfl⟩
theorem lp_X7_7 : zLp RX7 7 7 0 true (.array .int) := ⟨RX7, TX7, 28, rfl, by decide, zwd_of 685 (by decide +kernel) rfl, rfl, by decide +kernel, rfl⟩
theorem lk_X7_13 : zLk RX7 13 7 1 := ⟨RX7, TX7, 28, rfl, by decide, zwd_of 686 (by decide +kernel) rfl⟩
theorem lp_X7_13 : zLp RX7 13 7 1 true (.array .int) := ⟨RX7, TX7, 28, rfl, by decide, zwd_of 686 (by decide +kernel) rfl, rfl, by decide +kernel, rfl⟩
theorem lk_X7_16 : zLk RX7 16 7 2 := ⟨RX7, TX7, 28, rfl, by decide, zwd_of 687 (by decide +kernel) rfl⟩
theorem lp_X7_16 : zLp RX7 16 7 2 true (.array .int) := ⟨RX7, TX7, 28, rfl, by decide, zwd_of 687 (by decide +kernel) rfl, rfl, by decide +kernel, rfl⟩
theorem lk_X7_19 : zLk RX7 19 7 4 := ⟨RX7, TX7, 28, rfl, by decide, zwd_of 689 (by decide +kernel) rfl⟩
theorem lp_X7_19 : zLp RX7 19 7 4 true (.array .int) := ⟨RX7, TX7, 28, rfl, by decide, zwd_of 689 (by decide +kernel) rfl, rfl, by decide +kernel, rfl⟩
theorem lk_X7_22 : zLk RX7 22 7 5 := ⟨RX7, TX7, 28, rfl, by decide, zwd_of 690 (by decide +kernel) rfl⟩
theorem lp_X7_22 : zLp RX7 22 7 5 true (.array .int) := ⟨RX7, TX7, 28, rfl, by decide, zwd_of 690 (by decide +kernel) rfl, rfl, by decide +kernel, rfl⟩
theorem lk_X7_25 : zLk RX7 25 7 6 := ⟨RX7, TX7, 28, rfl, by decide, zwd_of 691 (by decide +kernel) rfl⟩
theorem lp_X7_25 : zLp RX7 25 7 6 true (.array .int) := ⟨RX7, TX7, 28, rfl, by decide, zwd_of 691 (by decide +kernel) rfl, rfl, by decide +kernel, rfl⟩
theorem lk_X7_28 : zLk RX7 28 7 7 := ⟨RX7, TX7, 28, rfl, by decide, zwd_of 692 (by decide +kernel) rfl⟩
theorem lp_X7_28 : zLp RX7 28 7 7 true (.array .int) := ⟨RX7, TX7, 28, rfl, by decide, zwd_of 692 (by decide +kernel) rfl, rfl, by decide +kernel, rfl⟩
theorem lk_X7_31 : zLk RX7 31 7 8 := ⟨RX7, TX7, 28, rfl, by decide, zwd_of 693 (by decide +kernel) rfl⟩
theorem lp_X7_31 : zLp RX7 31 7 8 true (.array .int) := ⟨RX7, TX7, 28, rfl, by decide, zwd_of 693 (by decide +kernel) rfl, rfl, by decide +kernel, rfl⟩
theorem lk_X7_34 : zLk RX7 34 7 10 := ⟨RX7, TX7, 28, rfl, by decide, zwd_of 695 (by decide +kernel) rfl⟩
theorem lp_X7_34 : zLp RX7 34 7 10 true (.array .int) := ⟨RX7, TX7, 28, rfl, by decide, zwd_of 695 (by decide +kernel) rfl, rfl, by decide +kernel, rfl⟩
theorem lk_X7_37 : zLk RX7 37 7 12 := ⟨RX7, TX7, 28, rfl, by decide, zwd_of 697 (by decide +kernel) rfl⟩
theorem lp_X7_37 : zLp RX7 37 7 12 true (.array .int) := ⟨RX7, TX7, 28, rfl, by decide, zwd_of 697 (by decide +kernel) rfl, rfl, by decide +kernel, rfl⟩
theorem lk_X7_40 : zLk RX7 40 7 13 := ⟨RX7, TX7, 28, rfl, by decide, zwd_of 698 (by decide +kernel) rfl⟩
theorem lp_X7_40 : zLp RX7 40 7 13 true (.array .int) := ⟨RX7, TX7, 28, rfl, by decide, zwd_of 698 (by decide +kernel) rfl, rfl, by decide +kernel, rfl⟩
theorem lk_X7_43 : zLk RX7 43 7 15 := ⟨RX7, TX7, 28, rfl, by decide, zwd_of 700 (by decide +kernel) rfl⟩
theorem lp_X7_43 : zLp RX7 43 7 15 true (.array .int) := ⟨RX7, TX7, 28, rfl, by decide, zwd_of 700 (by decide +kernel) rfl, rfl, by decide +kernel, rfl⟩
theorem lk_X7_46 : zLk RX7 46 7 16 := ⟨RX7, TX7, 28, rfl, by decide, zwd_of 701 (by decide +kernel) rfl⟩
theorem lp_X7_46 : zLp RX7 46 7 16 true (.array .int) := ⟨RX7, TX7, 28, rfl, by decide, zwd_of 701 (by decide +kernel) rfl, rfl, by decide +kernel, rfl⟩
theorem lk_X7_49 : zLk RX7 49 7 17 := ⟨RX7, TX7, 28, rfl, by decide, zwd_of 702 (by decide +kernel) rfl⟩
theorem lp_X7_49 : zLp RX7 49 7 17 true (.array .int) := ⟨RX7, TX7, 28, rfl, by decide, zwd_of 702 (by decide +kernel) rfl, rfl, by decide +kernel, rfl⟩
theorem lk_X7_52 : zLk RX7 52 7 18 := ⟨RX7, TX7, 28, rfl, by decide, zwd_of 703 (by decide +kernel) rfl⟩
theorem lp_X7_52 : zLp RX7 52 7 18 true (.array .int) := ⟨RX7, TX7, 28, rfl, by decide, zwd_of 703 (by decide +kernel) rfl, rfl, by decide +kernel, rfl⟩
theorem lk_X7_55 : zLk RX7 55 7 20 := ⟨RX7, TX7, 28, rfl, by decide, zwd_of 705 (by decide +kernel) rfl⟩
theorem lp_X7_55 : zLp RX7 55 7 20 true (.array .int) := ⟨RX7, TX7, 28, rfl, by decide, zwd_of 705 (by decide +kernel) rfl, rfl, by decide +kernel, rfl⟩
theorem lk_X7_58 : zLk RX7 58 7 21 := ⟨RX7, TX7, 28, rfl, by decide, zwd_of 706 (by decide +kernel) rfl⟩
theorem lp_X7_58 : zLp RX7 58 7 21 true (.array .int) := ⟨RX7, TX7, 28, rfl, by decide, zwd_of 706 (by decide +kernel) rfl, rfl, by decide +kernel, rfl⟩
theorem lk_X7_62 : zLk RX7 62 7 22 := ⟨RX7, TX7, 28, rfl, by decide, zwd_of 707 (by decide +kernel) rfl⟩
theorem lp_X7_62 : zLp RX7 62 7 22 true (.array .int) := ⟨RX7, TX7, 28, rfl, by decide, zwd_of 707 (by decide +kernel) rfl, rfl, by decide +kernel, rfl⟩
theorem lk_X7_65 : zLk RX7 65 7 23 := ⟨RX7, TX7, 28, rfl, by decide, zwd_of 708 (by decide +kernel) rfl⟩
theorem lp_X7_65 : zLp RX7 65 7 23 true (.array .int) := ⟨RX7, TX7, 28, rfl, by decide, zwd_of 708 (by decide +kernel) rfl, rfl, by decide +kernel, rfl⟩
theorem lk_X7_68 : zLk RX7 68 7 24 := ⟨RX7, TX7, 28, rfl, by decide, zwd_of 709 (by decide +kernel) rfl⟩
theorem lp_X7_68 : zLp RX7 68 7 24 true (.array .int) := ⟨RX7, TX7, 28, rfl, by decide, zwd_of 709 (by decide +kernel) rfl, rfl, by decide +kernel, rfl⟩
theorem lk_X7_91 : zLk RX7 91 7 3 := ⟨RX7, TX7, 28, rfl, by decide, zwd_of 688 (by decide +kernel) rfl⟩
theorem lp_X7_91 : zLp RX7 91 7 3 false .int := ⟨RX7, TX7, 28, rfl, by decide, zwd_of 688 (by decide +kernel) rfl, rfl, by decide +kernel, rfl⟩
theorem lk_X7_95 : zLk RX7 95 7 9 := ⟨RX7, TX7, 28, rfl, by decide, zwd_of 694 (by decide +kernel) rfl⟩
theorem lp_X7_95 : zLp RX7 95 7 9 false .int := ⟨RX7, TX7, 28, rfl, by decide, zwd_of 694 (by decide +kernel) rfl, rfl, by decide +kernel, rfl⟩
theorem lk_X7_98 : zLk RX7 98 7 14 := ⟨RX7, TX7, 28, rfl, by decide, zwd_of 699 (by decide +kernel) rfl⟩
theorem lp_X7_98 : zLp RX7 98 7 14 false .boolean := ⟨RX7, TX7, 28, rfl, by decide, zwd_of 699 (by decide +kernel) rfl, rfl, by decide +kernel, rfl⟩
theorem lk_X7_112 : zLk RX7 112 7 11 := ⟨RX7, TX7, 28, rfl, by decide, zwd_of 696 (by decide +kernel) rfl⟩
theorem lp_X7_112 : zLp RX7 112 7 11 false .int := ⟨RX7, TX7, 28, rfl, by decide, zwd_of 696 (by decide +kernel) rfl, rfl, by decide +kernel, rfl⟩
theorem lk_X7_146 : zLk RX7 146 7 19 := ⟨RX7, TX7, 28, rfl, by decide, zwd_of 704 (by decide +kernel) rfl⟩
theorem lp_X7_146 : zLp RX7 146 7 19 false .int := ⟨RX7, TX7, 28, rfl, by decide, zwd_of 704 (by decide +kernel) rfl, rfl, by decide +kernel, rfl⟩
theorem lk_X7_177 : zLk RX7 177 7 26 := ⟨RX7, TX7, 28, rfl, by decide, zwd_of 711 (by decide +kernel) rfl⟩
theorem lp_X7_177 : zLp RX7 177 7 26 false .int := ⟨RX7, TX7, 28, rfl, by decide, zwd_of 711 (by decide +kernel) rfl, rfl, by decide +kernel, rfl⟩
theorem lk_X7_180 : zLk RX7 180 7 27 := ⟨RX7, TX7, 28, rfl, by decide, zwd_of 712 (by decide +kernel) rfl⟩
theorem lp_X7_180 : zLp RX7 180 7 27 false .int := ⟨RX7, TX7, 28, rfl, by decide, zwd_of 712 (by decide +kernel) rfl, rfl, by decide +kernel, rfl⟩
theorem lk_X7_197 : zLk RX7 197 7 25 := ⟨RX7, TX7, 28, rfl, by decide, zwd_of 710 (by decide +kernel) rfl⟩
theorem lp_X7_197 : zLp RX7 197 7 25 false .int := ⟨RX7, TX7, 28, rfl, by decide, zwd_of 710 (by decide +kernel) rfl, rfl, by decide +kernel, rfl⟩
def mX0_init : zM := (yX0_init, cX0_init, 3, none, 1, 9, 2394)
def mX0_renew : zM := (yX0_renew, cX0_renew, 2, none, 4, 0, 0)
def mX0_listBlocks : zM := (yX0_listBlocks, cX0_listBlocks, 4, none, 2, 0, 0)
def mX0_lesserTwins : zM := (yX0_lesserTwins, cX0_lesserTwins, 4, (some .int), 1, 0, 0)
def mX0_addBlock : zM := (yX0_addBlock, cX0_addBlock, 7, none, 1, 0, 0)
def mX0_findSoonest : zM := (yX0_findSoonest, cX0_findSoonest, 3, none, 2, 0, 0)
def mX0_goOnFrom : zM := (yX0_goOnFrom, cX0_goOnFrom, 5, none, 1, 0, 0)
def mX0_findLatest : zM := (yX0_findLatest, cX0_findLatest, 3, none, 2, 0, 0)
def mX0_latestFor : zM := (yX0_latestFor, cX0_latestFor, 5, (some .int), 1, 0, 0)
def mX0_fillHours : zM := (yX0_fillHours, cX0_fillHours, 4, none, 2, 0, 0)
def mX0_leastCode : zM := (yX0_leastCode, cX0_leastCode, 4, (some .int), 0, 0, 0)
def mX0_place : zM := (yX0_place, cX0_place, 3, (some .int), 1, 0, 0)
def mX1_init : zM := (yX1_init, cX1_init, 3, none, 1, 6, 63)
def mX1_renew : zM := (yX1_renew, cX1_renew, 1, none, 4, 0, 0)
def mX1_idleHour : zM := (yX1_idleHour, cX1_idleHour, 4, (some .int), 0, 0, 0)
def mX1_countIdle : zM := (yX1_countIdle, cX1_countIdle, 3, (some .int), 0, 0, 0)
def mX1_giveLabels : zM := (yX1_giveLabels, cX1_giveLabels, 4, none, 2, 0, 0)
def mX1_firstByRow : zM := (yX1_firstByRow, cX1_firstByRow, 6, (some .int), 1, 0, 0)
def mX1_tellLabel : zM := (yX1_tellLabel, cX1_tellLabel, 4, none, 1, 0, 0)
def mX1_fillHours : zM := (yX1_fillHours, cX1_fillHours, 6, none, 2, 0, 0)
def mX1_greatestReady : zM := (yX1_greatestReady, cX1_greatestReady, 5, (some .int), 1, 0, 0)
def mX1_place : zM := (yX1_place, cX1_place, 3, (some .int), 1, 0, 0)
def mX2_init : zM := (yX2_init, cX2_init, 2, none, 1, 4, 40)
def mX2_renew : zM := (yX2_renew, cX2_renew, 1, none, 3, 0, 0)
def mX2_areApart : zM := (yX2_areApart, cX2_areApart, 3, (some .boolean), 1, 0, 0)
def mX2_areTwins : zM := (yX2_areTwins, cX2_areTwins, 3, (some .boolean), 0, 0, 0)
def mX2_findBehind : zM := (yX2_findBehind, cX2_findBehind, 3, none, 1, 0, 0)
def mX2_findFollowers : zM := (yX2_findFollowers, cX2_findFollowers, 3, none, 1, 0, 0)
def mX2_findNexts : zM := (yX2_findNexts, cX2_findNexts, 3, none, 1, 0, 0)
def mX2_findDepths : zM := (yX2_findDepths, cX2_findDepths, 6, none, 2, 0, 0)
def mX3_init : zM := (yX3_init, cX3_init, 2, none, 1, 2, 20)
def mX3_jobAt : zM := (yX3_jobAt, cX3_jobAt, 2, (some .int), 0, 0, 0)
def mX3_close : zM := (yX3_close, cX3_close, 5, none, 2, 0, 0)
def mX3_measure : zM := (yX3_measure, cX3_measure, 6, none, 1, 0, 0)
def mX3_firstNearer : zM := (yX3_firstNearer, cX3_firstNearer, 4, (some .int), 1, 0, 0)
def mX4_init : zM := (yX4_init, cX4_init, 1, none, 1, 1, 16)
def mX4_become : zM := (yX4_become, cX4_become, 3, none, 1, 0, 0)
def mX4_isMissing : zM := (yX4_isMissing, cX4_isMissing, 1, (some .boolean), 0, 0, 0)
def mX4_hasPlaces : zM := (yX4_hasPlaces, cX4_hasPlaces, 3, (some .boolean), 0, 0, 0)
def mX4_write : zM := (yX4_write, cX4_write, 3, none, 1, 0, 0)
def mX4_cut : zM := (yX4_cut, cX4_cut, 2, (some .int), 0, 0, 0)
def mX5_init : zM := (yX5_init, cX5_init, 1, none, 1, 7, 93)
def mX5_has : zM := (yX5_has, cX5_has, 2, (some .boolean), 0, 0, 0)
def mX5_all : zM := (yX5_all, cX5_all, 1, (some .int), 1, 0, 0)
def mX5_add : zM := (yX5_add, cX5_add, 5, (some .int), 2, 0, 0)
def mX5_waitForMore : zM := (yX5_waitForMore, cX5_waitForMore, 4, (some .int), 2, 0, 0)
def mX5_waitNoMore : zM := (yX5_waitNoMore, cX5_waitNoMore, 3, (some .int), 2, 0, 0)
def mX5_takeBack : zM := (yX5_takeBack, cX5_takeBack, 2, (some .boolean), 0, 0, 0)
def mX5_note : zM := (yX5_note, cX5_note, 3, none, 1, 0, 0)
def mX5_beginOf : zM := (yX5_beginOf, cX5_beginOf, 2, (some .int), 0, 0, 0)
def mX5_endOf : zM := (yX5_endOf, cX5_endOf, 2, (some .int), 0, 0, 0)
def mX5_ownedAlike : zM := (yX5_ownedAlike, cX5_ownedAlike, 3, (some .boolean), 0, 0, 0)
def mX5_areTwins : zM := (yX5_areTwins, cX5_areTwins, 3, (some .boolean), 0, 0, 0)
def mX5_countWaits : zM := (yX5_countWaits, cX5_countWaits, 3, (some .int), 1, 0, 0)
def mX6_init : zM := (yX6_init, cX6_init, 2, none, 2, 46, 2775)
def mX6_sheet : zM := (yX6_sheet, cX6_sheet, 4, (some .int), 2, 0, 0)
def mX6_put : zM := (yX6_put, cX6_put, 5, (some .int), 2, 0, 0)
def mX6_copy : zM := (yX6_copy, cX6_copy, 8, (some .int), 1, 0, 0)
def mX6_told : zM := (yX6_told, cX6_told, 4, (some .long), 1, 0, 0)
def mX6_isSheet : zM := (yX6_isSheet, cX6_isSheet, 1, (some .boolean), 0, 0, 0)
def mX6_job : zM := (yX6_job, cX6_job, 4, (some .int), 3, 0, 0)
def mX6_after : zM := (yX6_after, cX6_after, 3, (some .int), 6, 0, 0)
def mX6_read : zM := (yX6_read, cX6_read, 6, (some .int), 7, 0, 0)
def mX6_free : zM := (yX6_free, cX6_free, 3, (some .int), 3, 0, 0)
def mX6_ring : zM := (yX6_ring, cX6_ring, 2, (some .int), 1, 0, 0)
def mX6_about : zM := (yX6_about, cX6_about, 3, (some .int), 6, 0, 0)
def mX6_undo : zM := (yX6_undo, cX6_undo, 1, (some .int), 1, 0, 0)
def mX6_isKind : zM := (yX6_isKind, cX6_isKind, 3, (some .boolean), 1, 0, 0)
def mX6_isBound : zM := (yX6_isBound, cX6_isBound, 1, (some .boolean), 0, 0, 0)
def mX6_readPlaces : zM := (yX6_readPlaces, cX6_readPlaces, 8, (some .int), 6, 0, 0)
def mX6_isRefused : zM := (yX6_isRefused, cX6_isRefused, 3, (some .boolean), 5, 0, 0)
def mX6_least : zM := (yX6_least, cX6_least, 1, (some .int), 6, 0, 0)
def mX6_day : zM := (yX6_day, cX6_day, 4, (some .int), 6, 0, 0)
def mX6_idle : zM := (yX6_idle, cX6_idle, 2, (some .int), 6, 0, 0)
def mX6_pairs : zM := (yX6_pairs, cX6_pairs, 1, (some .int), 6, 0, 0)
def mX6_rest : zM := (yX6_rest, cX6_rest, 2, (some .int), 6, 0, 0)
def mX6_kept : zM := (yX6_kept, cX6_kept, 1, (some .int), 6, 0, 0)
def mX6_code : zM := (yX6_code, cX6_code, 3, (some .int), 6, 0, 0)
def mX6_check : zM := (yX6_check, cX6_check, 3, (some .int), 2, 0, 0)
def mX6_count : zM := (yX6_count, cX6_count, 2, (some .int), 6, 0, 0)
def mX6_isDay : zM := (yX6_isDay, cX6_isDay, 8, (some .boolean), 1, 0, 0)
def mX6_keepsToKinds : zM := (yX6_keepsToKinds, cX6_keepsToKinds, 6, (some .boolean), 1, 0, 0)
def mX6_hourIn : zM := (yX6_hourIn, cX6_hourIn, 3, (some .int), 0, 0, 0)
def mX6_orderNow : zM := (yX6_orderNow, cX6_orderNow, 1, (some (.object "TwoBenches$Order")), 4, 0, 0)
def mX6_labelDayNow : zM := (yX6_labelDayNow, cX6_labelDayNow, 1, (some (.object "TwoBenches$LabelDay")), 5, 0, 0)
def mX6_keptDayNow : zM := (yX6_keptDayNow, cX6_keptDayNow, 1, (some (.object "TwoBenches$KeptDay")), 5, 0, 0)
def mX6_bit : zM := (yX6_bit, cX6_bit, 1, (some .int), 0, 0, 0)
def mX6_holds : zM := (yX6_holds, cX6_holds, 2, (some .boolean), 0, 0, 0)
def mX7_init : zM := (yX7_init, cX7_init, 2, none, 1, 20, 64813)
def mX7_in : zM := (yX7_in, cX7_in, 6, (some .boolean), 0, 0, 0)
def mX7_isSheet : zM := (yX7_isSheet, cX7_isSheet, 1, (some .boolean), 1, 0, 0)
def mX7_sheet : zM := (yX7_sheet, cX7_sheet, 5, (some .int), 2, 0, 0)
def mX7_against : zM := (yX7_against, cX7_against, 3, (some .int), 2, 0, 0)
def mX7_put : zM := (yX7_put, cX7_put, 5, (some .int), 3, 0, 0)
def mX7_copy : zM := (yX7_copy, cX7_copy, 7, (some .int), 2, 0, 0)
def mX7_told : zM := (yX7_told, cX7_told, 4, (some .long), 3, 0, 0)
def mX7_isJob : zM := (yX7_isJob, cX7_isJob, 2, (some .boolean), 1, 0, 0)
def mX7_keep : zM := (yX7_keep, cX7_keep, 3, none, 0, 0, 0)
def mX7_undo : zM := (yX7_undo, cX7_undo, 3, (some .int), 0, 0, 0)
def mX7_isHour : zM := (yX7_isHour, cX7_isHour, 1, (some .boolean), 1, 0, 0)
def mX7_job : zM := (yX7_job, cX7_job, 5, (some .int), 2, 0, 0)
def mX7_layBehind : zM := (yX7_layBehind, cX7_layBehind, 3, none, 0, 0, 0)
def mX7_isBehind : zM := (yX7_isBehind, cX7_isBehind, 3, (some .boolean), 0, 0, 0)
def mX7_layRing : zM := (yX7_layRing, cX7_layRing, 6, none, 0, 0, 0)
def mX7_wouldRing : zM := (yX7_wouldRing, cX7_wouldRing, 3, (some .boolean), 1, 0, 0)
def mX7_after : zM := (yX7_after, cX7_after, 3, (some .int), 2, 0, 0)
def mX7_read : zM := (yX7_read, cX7_read, 9, (some .int), 2, 0, 0)
def mX7_bits : zM := (yX7_bits, cX7_bits, 3, (some .int), 0, 0, 0)
def mX7_free : zM := (yX7_free, cX7_free, 3, (some .int), 2, 0, 0)
def mX7_ring : zM := (yX7_ring, cX7_ring, 2, (some .int), 0, 0, 0)
def mX7_nextOf : zM := (yX7_nextOf, cX7_nextOf, 6, (some .int), 1, 0, 0)
def mX7_rowOf : zM := (yX7_rowOf, cX7_rowOf, 4, (some .int), 0, 0, 0)
def mX7_layLabels : zM := (yX7_layLabels, cX7_layLabels, 9, none, 2, 0, 0)
def mX7_greatest : zM := (yX7_greatest, cX7_greatest, 5, (some .int), 0, 0, 0)
def mX7_layDay : zM := (yX7_layDay, cX7_layDay, 6, none, 3, 0, 0)
def mX7_all : zM := (yX7_all, cX7_all, 1, (some .int), 0, 0, 0)
def mX7_depthOf : zM := (yX7_depthOf, cX7_depthOf, 5, (some .int), 1, 0, 0)
def mX7_layDepths : zM := (yX7_layDepths, cX7_layDepths, 3, none, 2, 0, 0)
def mX7_behindOf : zM := (yX7_behindOf, cX7_behindOf, 4, (some .int), 1, 0, 0)
def mX7_about : zM := (yX7_about, cX7_about, 3, (some .int), 4, 0, 0)
def mX7_least : zM := (yX7_least, cX7_least, 1, (some .int), 4, 0, 0)
def mX7_day : zM := (yX7_day, cX7_day, 7, (some .int), 4, 0, 0)
def mX7_inHour : zM := (yX7_inHour, cX7_inHour, 4, (some .int), 0, 0, 0)
def mX7_idle : zM := (yX7_idle, cX7_idle, 4, (some .int), 4, 0, 0)
def mX7_pairs : zM := (yX7_pairs, cX7_pairs, 7, (some .int), 1, 0, 0)
def mX7_rest : zM := (yX7_rest, cX7_rest, 4, (some .int), 4, 0, 0)
def mX7_may : zM := (yX7_may, cX7_may, 4, (some .boolean), 0, 0, 0)
def mX7_may2 : zM := (yX7_may2, cX7_may2, 3, (some .boolean), 0, 0, 0)
def mX7_codeOf : zM := (yX7_codeOf, cX7_codeOf, 2, (some .int), 0, 0, 0)
def mX7_bestOf : zM := (yX7_bestOf, cX7_bestOf, 11, (some .int), 1, 0, 0)
def mX7_layKept : zM := (yX7_layKept, cX7_layKept, 6, none, 2, 0, 0)
def mX7_kept : zM := (yX7_kept, cX7_kept, 1, (some .int), 3, 0, 0)
def mX7_code : zM := (yX7_code, cX7_code, 2, (some .int), 3, 0, 0)
def mX7_check : zM := (yX7_check, cX7_check, 10, (some .int), 1, 0, 0)
def mX7_count : zM := (yX7_count, cX7_count, 4, (some .int), 4, 0, 0)
def mJ6_bitCount_0f7a4 : zM := (yJ6_bitCount_0f7a4, cJ6_bitCount_0f7a4, 1, (some .int), 0, 0, 0)
def mJ9_max_7cf53 : zM := (yJ9_max_7cf53, cJ9_max_7cf53, 2, (some .int), 0, 0, 0)
def mJ9_min_7cf53 : zM := (yJ9_min_7cf53, cJ9_min_7cf53, 2, (some .int), 0, 0, 0)
def mJ7_fill_53178 : zM := (yJ7_fill_53178, cJ7_fill_53178, 4, none, 0, 0, 0)
def mL_law : zM := (x, code, 4, ret, 10, 600000, 7302250)
theorem mkX0_init : zMk mX0_init 2 := ⟨zwd_of 58 (by decide +kernel) rfl, zwd_of 216 (by decide +kernel) rfl, ⟨by decide +kernel, by decide +kernel, by decide +kernel⟩, by decide⟩
theorem mkX0_renew : zMk mX0_renew 0 := ⟨zwd_of 58 (by decide +kernel) rfl, zwd_of 542 (by decide +kernel) rfl, ⟨by decide +kernel, by decide +kernel, by decide +kernel⟩, by decide⟩
theorem mkX0_listBlocks : zMk mX0_listBlocks 0 := ⟨zwd_of 58 (by decide +kernel) rfl, zwd_of 547 (by decide +kernel) rfl, ⟨by decide +kernel, by decide +kernel, by decide +kernel⟩, by decide⟩
theorem mkX0_lesserTwins : zMk mX0_lesserTwins 1 := ⟨zwd_of 58 (by decide +kernel) rfl, zwd_of 551 (by decide +kernel) rfl, ⟨by decide +kernel, by decide +kernel, by decide +kernel⟩, by decide⟩
theorem mkX0_addBlock : zMk mX0_addBlock 4 := ⟨zwd_of 58 (by decide +kernel) rfl, zwd_of 572 (by decide +kernel) rfl, ⟨by decide +kernel, by decide +kernel, by decide +kernel⟩, by decide⟩
theorem mkX0_findSoonest : zMk mX0_findSoonest 0 := ⟨zwd_of 58 (by decide +kernel) rfl, zwd_of 582 (by decide +kernel) rfl, ⟨by decide +kernel, by decide +kernel, by decide +kernel⟩, by decide⟩
theorem mkX0_goOnFrom : zMk mX0_goOnFrom 1 := ⟨zwd_of 58 (by decide +kernel) rfl, zwd_of 587 (by decide +kernel) rfl, ⟨by decide +kernel, by decide +kernel, by decide +kernel⟩, by decide⟩
theorem mkX0_findLatest : zMk mX0_findLatest 0 := ⟨zwd_of 58 (by decide +kernel) rfl, zwd_of 592 (by decide +kernel) rfl, ⟨by decide +kernel, by decide +kernel, by decide +kernel⟩, by decide⟩
theorem mkX0_latestFor : zMk mX0_latestFor 1 := ⟨zwd_of 58 (by decide +kernel) rfl, zwd_of 596 (by decide +kernel) rfl, ⟨by decide +kernel, by decide +kernel, by decide +kernel⟩, by decide⟩
theorem mkX0_fillHours : zMk mX0_fillHours 0 := ⟨zwd_of 58 (by decide +kernel) rfl, zwd_of 600 (by decide +kernel) rfl, ⟨by decide +kernel, by decide +kernel, by decide +kernel⟩, by decide⟩
theorem mkX0_leastCode : zMk mX0_leastCode 2 := ⟨zwd_of 58 (by decide +kernel) rfl, zwd_of 604 (by decide +kernel) rfl, ⟨by decide +kernel, by decide +kernel, by decide +kernel⟩, by decide⟩
theorem mkX0_place : zMk mX0_place 2 := ⟨zwd_of 58 (by decide +kernel) rfl, zwd_of 608 (by decide +kernel) rfl, ⟨by decide +kernel, by decide +kernel, by decide +kernel⟩, by decide⟩
theorem mkX1_init : zMk mX1_init 2 := ⟨zwd_of 57 (by decide +kernel) rfl, zwd_of 174 (by decide +kernel) rfl, ⟨by decide +kernel, by decide +kernel, by decide +kernel⟩, by decide⟩
theorem mkX1_renew : zMk mX1_renew 0 := ⟨zwd_of 57 (by decide +kernel) rfl, zwd_of 504 (by decide +kernel) rfl, ⟨by decide +kernel, by decide +kernel, by decide +kernel⟩, by decide⟩
theorem mkX1_idleHour : zMk mX1_idleHour 1 := ⟨zwd_of 57 (by decide +kernel) rfl, zwd_of 632 (by decide +kernel) rfl, ⟨by decide +kernel, by decide +kernel, by decide +kernel⟩, by decide⟩
theorem mkX1_countIdle : zMk mX1_countIdle 0 := ⟨zwd_of 57 (by decide +kernel) rfl, zwd_of 677 (by decide +kernel) rfl, ⟨by decide +kernel, by decide +kernel, by decide +kernel⟩, by decide⟩
theorem mkX1_giveLabels : zMk mX1_giveLabels 0 := ⟨zwd_of 57 (by decide +kernel) rfl, zwd_of 509 (by decide +kernel) rfl, ⟨by decide +kernel, by decide +kernel, by decide +kernel⟩, by decide⟩
theorem mkX1_firstByRow : zMk mX1_firstByRow 1 := ⟨zwd_of 57 (by decide +kernel) rfl, zwd_of 514 (by decide +kernel) rfl, ⟨by decide +kernel, by decide +kernel, by decide +kernel⟩, by decide⟩
theorem mkX1_tellLabel : zMk mX1_tellLabel 2 := ⟨zwd_of 57 (by decide +kernel) rfl, zwd_of 521 (by decide +kernel) rfl, ⟨by decide +kernel, by decide +kernel, by decide +kernel⟩, by decide⟩
theorem mkX1_fillHours : zMk mX1_fillHours 0 := ⟨zwd_of 57 (by decide +kernel) rfl, zwd_of 525 (by decide +kernel) rfl, ⟨by decide +kernel, by decide +kernel, by decide +kernel⟩, by decide⟩
theorem mkX1_greatestReady : zMk mX1_greatestReady 2 := ⟨zwd_of 57 (by decide +kernel) rfl, zwd_of 530 (by decide +kernel) rfl, ⟨by decide +kernel, by decide +kernel, by decide +kernel⟩, by decide⟩
theorem mkX1_place : zMk mX1_place 2 := ⟨zwd_of 57 (by decide +kernel) rfl, zwd_of 534 (by decide +kernel) rfl, ⟨by decide +kernel, by decide +kernel, by decide +kernel⟩, by decide⟩
theorem mkX2_init : zMk mX2_init 1 := ⟨zwd_of 56 (by decide +kernel) rfl, zwd_of 138 (by decide +kernel) rfl, ⟨by decide +kernel, by decide +kernel, by decide +kernel⟩, by decide⟩
theorem mkX2_renew : zMk mX2_renew 0 := ⟨zwd_of 56 (by decide +kernel) rfl, zwd_of 403 (by decide +kernel) rfl, ⟨by decide +kernel, by decide +kernel, by decide +kernel⟩, by decide⟩
theorem mkX2_areApart : zMk mX2_areApart 2 := ⟨zwd_of 56 (by decide +kernel) rfl, zwd_of 564 (by decide +kernel) rfl, ⟨by decide +kernel, by decide +kernel, by decide +kernel⟩, by decide⟩
theorem mkX2_areTwins : zMk mX2_areTwins 2 := ⟨zwd_of 56 (by decide +kernel) rfl, zwd_of 555 (by decide +kernel) rfl, ⟨by decide +kernel, by decide +kernel, by decide +kernel⟩, by decide⟩
theorem mkX2_findBehind : zMk mX2_findBehind 0 := ⟨zwd_of 56 (by decide +kernel) rfl, zwd_of 407 (by decide +kernel) rfl, ⟨by decide +kernel, by decide +kernel, by decide +kernel⟩, by decide⟩
theorem mkX2_findFollowers : zMk mX2_findFollowers 0 := ⟨zwd_of 56 (by decide +kernel) rfl, zwd_of 415 (by decide +kernel) rfl, ⟨by decide +kernel, by decide +kernel, by decide +kernel⟩, by decide⟩
theorem mkX2_findNexts : zMk mX2_findNexts 0 := ⟨zwd_of 56 (by decide +kernel) rfl, zwd_of 423 (by decide +kernel) rfl, ⟨by decide +kernel, by decide +kernel, by decide +kernel⟩, by decide⟩
theorem mkX2_findDepths : zMk mX2_findDepths 0 := ⟨zwd_of 56 (by decide +kernel) rfl, zwd_of 427 (by decide +kernel) rfl, ⟨by decide +kernel, by decide +kernel, by decide +kernel⟩, by decide⟩
theorem mkX3_init : zMk mX3_init 1 := ⟨zwd_of 59 (by decide +kernel) rfl, zwd_of 268 (by decide +kernel) rfl, ⟨by decide +kernel, by decide +kernel, by decide +kernel⟩, by decide⟩
theorem mkX3_jobAt : zMk mX3_jobAt 1 := ⟨zwd_of 59 (by decide +kernel) rfl, zwd_of 484 (by decide +kernel) rfl, ⟨by decide +kernel, by decide +kernel, by decide +kernel⟩, by decide⟩
theorem mkX3_close : zMk mX3_close 2 := ⟨zwd_of 59 (by decide +kernel) rfl, zwd_of 437 (by decide +kernel) rfl, ⟨by decide +kernel, by decide +kernel, by decide +kernel⟩, by decide⟩
theorem mkX3_measure : zMk mX3_measure 1 := ⟨zwd_of 59 (by decide +kernel) rfl, zwd_of 441 (by decide +kernel) rfl, ⟨by decide +kernel, by decide +kernel, by decide +kernel⟩, by decide⟩
theorem mkX3_firstNearer : zMk mX3_firstNearer 2 := ⟨zwd_of 59 (by decide +kernel) rfl, zwd_of 448 (by decide +kernel) rfl, ⟨by decide +kernel, by decide +kernel, by decide +kernel⟩, by decide⟩
theorem mkX4_init : zMk mX4_init 0 := ⟨zwd_of 60 (by decide +kernel) rfl, zwd_of 286 (by decide +kernel) rfl, ⟨by decide +kernel, by decide +kernel, by decide +kernel⟩, by decide⟩
theorem mkX4_become : zMk mX4_become 2 := ⟨zwd_of 60 (by decide +kernel) rfl, zwd_of 329 (by decide +kernel) rfl, ⟨by decide +kernel, by decide +kernel, by decide +kernel⟩, by decide⟩
theorem mkX4_isMissing : zMk mX4_isMissing 0 := ⟨zwd_of 60 (by decide +kernel) rfl, zwd_of 338 (by decide +kernel) rfl, ⟨by decide +kernel, by decide +kernel, by decide +kernel⟩, by decide⟩
theorem mkX4_hasPlaces : zMk mX4_hasPlaces 2 := ⟨zwd_of 60 (by decide +kernel) rfl, zwd_of 342 (by decide +kernel) rfl, ⟨by decide +kernel, by decide +kernel, by decide +kernel⟩, by decide⟩
theorem mkX4_write : zMk mX4_write 2 := ⟨zwd_of 60 (by decide +kernel) rfl, zwd_of 346 (by decide +kernel) rfl, ⟨by decide +kernel, by decide +kernel, by decide +kernel⟩, by decide⟩
theorem mkX4_cut : zMk mX4_cut 1 := ⟨zwd_of 60 (by decide +kernel) rfl, zwd_of 350 (by decide +kernel) rfl, ⟨by decide +kernel, by decide +kernel, by decide +kernel⟩, by decide⟩
theorem mkX5_init : zMk mX5_init 0 := ⟨zwd_of 54 (by decide +kernel) rfl, zwd_of 79 (by decide +kernel) rfl, ⟨by decide +kernel, by decide +kernel, by decide +kernel⟩, by decide⟩
theorem mkX5_has : zMk mX5_has 1 := ⟨zwd_of 54 (by decide +kernel) rfl, zwd_of 391 (by decide +kernel) rfl, ⟨by decide +kernel, by decide +kernel, by decide +kernel⟩, by decide⟩
theorem mkX5_all : zMk mX5_all 0 := ⟨zwd_of 54 (by decide +kernel) rfl, zwd_of 431 (by decide +kernel) rfl, ⟨by decide +kernel, by decide +kernel, by decide +kernel⟩, by decide⟩
theorem mkX5_add : zMk mX5_add 3 := ⟨zwd_of 54 (by decide +kernel) rfl, zwd_of 378 (by decide +kernel) rfl, ⟨by decide +kernel, by decide +kernel, by decide +kernel⟩, by decide⟩
theorem mkX5_waitForMore : zMk mX5_waitForMore 2 := ⟨zwd_of 54 (by decide +kernel) rfl, zwd_of 453 (by decide +kernel) rfl, ⟨by decide +kernel, by decide +kernel, by decide +kernel⟩, by decide⟩
theorem mkX5_waitNoMore : zMk mX5_waitNoMore 2 := ⟨zwd_of 54 (by decide +kernel) rfl, zwd_of 475 (by decide +kernel) rfl, ⟨by decide +kernel, by decide +kernel, by decide +kernel⟩, by decide⟩
theorem mkX5_takeBack : zMk mX5_takeBack 0 := ⟨zwd_of 54 (by decide +kernel) rfl, zwd_of 616 (by decide +kernel) rfl, ⟨by decide +kernel, by decide +kernel, by decide +kernel⟩, by decide⟩
theorem mkX5_note : zMk mX5_note 2 := ⟨zwd_of 54 (by decide +kernel) rfl, zwd_of 382 (by decide +kernel) rfl, ⟨by decide +kernel, by decide +kernel, by decide +kernel⟩, by decide⟩
theorem mkX5_beginOf : zMk mX5_beginOf 1 := ⟨zwd_of 54 (by decide +kernel) rfl, zwd_of 492 (by decide +kernel) rfl, ⟨by decide +kernel, by decide +kernel, by decide +kernel⟩, by decide⟩
theorem mkX5_endOf : zMk mX5_endOf 1 := ⟨zwd_of 54 (by decide +kernel) rfl, zwd_of 496 (by decide +kernel) rfl, ⟨by decide +kernel, by decide +kernel, by decide +kernel⟩, by decide⟩
theorem mkX5_ownedAlike : zMk mX5_ownedAlike 2 := ⟨zwd_of 54 (by decide +kernel) rfl, zwd_of 568 (by decide +kernel) rfl, ⟨by decide +kernel, by decide +kernel, by decide +kernel⟩, by decide⟩
theorem mkX5_areTwins : zMk mX5_areTwins 2 := ⟨zwd_of 54 (by decide +kernel) rfl, zwd_of 559 (by decide +kernel) rfl, ⟨by decide +kernel, by decide +kernel, by decide +kernel⟩, by decide⟩
theorem mkX5_countWaits : zMk mX5_countWaits 0 := ⟨zwd_of 54 (by decide +kernel) rfl, zwd_of 673 (by decide +kernel) rfl, ⟨by decide +kernel, by decide +kernel, by decide +kernel⟩, by decide⟩
theorem mkX6_init : zMk mX6_init 0 := ⟨zwd_of 53 (by decide +kernel) rfl, zwd_of 69 (by decide +kernel) rfl, ⟨by decide +kernel, by decide +kernel, by decide +kernel⟩, by decide⟩
theorem mkX6_sheet : zMk mX6_sheet 3 := ⟨zwd_of 53 (by decide +kernel) rfl, zwd_of 322 (by decide +kernel) rfl, ⟨by decide +kernel, by decide +kernel, by decide +kernel⟩, by decide⟩
theorem mkX6_put : zMk mX6_put 3 := ⟨zwd_of 53 (by decide +kernel) rfl, zwd_of 334 (by decide +kernel) rfl, ⟨by decide +kernel, by decide +kernel, by decide +kernel⟩, by decide⟩
theorem mkX6_copy : zMk mX6_copy 5 := ⟨zwd_of 53 (by decide +kernel) rfl, zwd_of 354 (by decide +kernel) rfl, ⟨by decide +kernel, by decide +kernel, by decide +kernel⟩, by decide⟩
theorem mkX6_told : zMk mX6_told 2 := ⟨zwd_of 53 (by decide +kernel) rfl, zwd_of 361 (by decide +kernel) rfl, ⟨by decide +kernel, by decide +kernel, by decide +kernel⟩, by decide⟩
theorem mkX6_isSheet : zMk mX6_isSheet 1 := ⟨zwd_of 53 (by decide +kernel) rfl, zwd_of 325 (by decide +kernel) rfl, ⟨by decide +kernel, by decide +kernel, by decide +kernel⟩, by decide⟩
theorem mkX6_job : zMk mX6_job 3 := ⟨zwd_of 53 (by decide +kernel) rfl, zwd_of 368 (by decide +kernel) rfl, ⟨by decide +kernel, by decide +kernel, by decide +kernel⟩, by decide⟩
theorem mkX6_after : zMk mX6_after 2 := ⟨zwd_of 53 (by decide +kernel) rfl, zwd_of 387 (by decide +kernel) rfl, ⟨by decide +kernel, by decide +kernel, by decide +kernel⟩, by decide⟩
theorem mkX6_read : zMk mX6_read 4 := ⟨zwd_of 53 (by decide +kernel) rfl, zwd_of 463 (by decide +kernel) rfl, ⟨by decide +kernel, by decide +kernel, by decide +kernel⟩, by decide⟩
theorem mkX6_free : zMk mX6_free 2 := ⟨zwd_of 53 (by decide +kernel) rfl, zwd_of 471 (by decide +kernel) rfl, ⟨by decide +kernel, by decide +kernel, by decide +kernel⟩, by decide⟩
theorem mkX6_ring : zMk mX6_ring 1 := ⟨zwd_of 53 (by decide +kernel) rfl, zwd_of 480 (by decide +kernel) rfl, ⟨by decide +kernel, by decide +kernel, by decide +kernel⟩, by decide⟩
theorem mkX6_about : zMk mX6_about 2 := ⟨zwd_of 53 (by decide +kernel) rfl, zwd_of 488 (by decide +kernel) rfl, ⟨by decide +kernel, by decide +kernel, by decide +kernel⟩, by decide⟩
theorem mkX6_undo : zMk mX6_undo 0 := ⟨zwd_of 53 (by decide +kernel) rfl, zwd_of 612 (by decide +kernel) rfl, ⟨by decide +kernel, by decide +kernel, by decide +kernel⟩, by decide⟩
theorem mkX6_isKind : zMk mX6_isKind 3 := ⟨zwd_of 53 (by decide +kernel) rfl, zwd_of 371 (by decide +kernel) rfl, ⟨by decide +kernel, by decide +kernel, by decide +kernel⟩, by decide⟩
theorem mkX6_isBound : zMk mX6_isBound 1 := ⟨zwd_of 53 (by decide +kernel) rfl, zwd_of 374 (by decide +kernel) rfl, ⟨by decide +kernel, by decide +kernel, by decide +kernel⟩, by decide⟩
theorem mkX6_readPlaces : zMk mX6_readPlaces 4 := ⟨zwd_of 53 (by decide +kernel) rfl, zwd_of 467 (by decide +kernel) rfl, ⟨by decide +kernel, by decide +kernel, by decide +kernel⟩, by decide⟩
theorem mkX6_isRefused : zMk mX6_isRefused 2 := ⟨zwd_of 53 (by decide +kernel) rfl, zwd_of 395 (by decide +kernel) rfl, ⟨by decide +kernel, by decide +kernel, by decide +kernel⟩, by decide⟩
theorem mkX6_least : zMk mX6_least 0 := ⟨zwd_of 53 (by decide +kernel) rfl, zwd_of 620 (by decide +kernel) rfl, ⟨by decide +kernel, by decide +kernel, by decide +kernel⟩, by decide⟩
theorem mkX6_day : zMk mX6_day 2 := ⟨zwd_of 53 (by decide +kernel) rfl, zwd_of 624 (by decide +kernel) rfl, ⟨by decide +kernel, by decide +kernel, by decide +kernel⟩, by decide⟩
theorem mkX6_idle : zMk mX6_idle 1 := ⟨zwd_of 53 (by decide +kernel) rfl, zwd_of 628 (by decide +kernel) rfl, ⟨by decide +kernel, by decide +kernel, by decide +kernel⟩, by decide⟩
theorem mkX6_pairs : zMk mX6_pairs 0 := ⟨zwd_of 53 (by decide +kernel) rfl, zwd_of 636 (by decide +kernel) rfl, ⟨by decide +kernel, by decide +kernel, by decide +kernel⟩, by decide⟩
theorem mkX6_rest : zMk mX6_rest 1 := ⟨zwd_of 53 (by decide +kernel) rfl, zwd_of 640 (by decide +kernel) rfl, ⟨by decide +kernel, by decide +kernel, by decide +kernel⟩, by decide⟩
theorem mkX6_kept : zMk mX6_kept 0 := ⟨zwd_of 53 (by decide +kernel) rfl, zwd_of 645 (by decide +kernel) rfl, ⟨by decide +kernel, by decide +kernel, by decide +kernel⟩, by decide⟩
theorem mkX6_code : zMk mX6_code 1 := ⟨zwd_of 53 (by decide +kernel) rfl, zwd_of 649 (by decide +kernel) rfl, ⟨by decide +kernel, by decide +kernel, by decide +kernel⟩, by decide⟩
theorem mkX6_check : zMk mX6_check 1 := ⟨zwd_of 53 (by decide +kernel) rfl, zwd_of 653 (by decide +kernel) rfl, ⟨by decide +kernel, by decide +kernel, by decide +kernel⟩, by decide⟩
theorem mkX6_count : zMk mX6_count 1 := ⟨zwd_of 53 (by decide +kernel) rfl, zwd_of 669 (by decide +kernel) rfl, ⟨by decide +kernel, by decide +kernel, by decide +kernel⟩, by decide⟩
theorem mkX6_isDay : zMk mX6_isDay 1 := ⟨zwd_of 53 (by decide +kernel) rfl, zwd_of 657 (by decide +kernel) rfl, ⟨by decide +kernel, by decide +kernel, by decide +kernel⟩, by decide⟩
theorem mkX6_keepsToKinds : zMk mX6_keepsToKinds 1 := ⟨zwd_of 53 (by decide +kernel) rfl, zwd_of 664 (by decide +kernel) rfl, ⟨by decide +kernel, by decide +kernel, by decide +kernel⟩, by decide⟩
theorem mkX6_hourIn : zMk mX6_hourIn 2 := ⟨zwd_of 53 (by decide +kernel) rfl, zwd_of 660 (by decide +kernel) rfl, ⟨by decide +kernel, by decide +kernel, by decide +kernel⟩, by decide⟩
theorem mkX6_orderNow : zMk mX6_orderNow 0 := ⟨zwd_of 53 (by decide +kernel) rfl, zwd_of 399 (by decide +kernel) rfl, ⟨by decide +kernel, by decide +kernel, by decide +kernel⟩, by decide⟩
theorem mkX6_labelDayNow : zMk mX6_labelDayNow 0 := ⟨zwd_of 53 (by decide +kernel) rfl, zwd_of 500 (by decide +kernel) rfl, ⟨by decide +kernel, by decide +kernel, by decide +kernel⟩, by decide⟩
theorem mkX6_keptDayNow : zMk mX6_keptDayNow 0 := ⟨zwd_of 53 (by decide +kernel) rfl, zwd_of 538 (by decide +kernel) rfl, ⟨by decide +kernel, by decide +kernel, by decide +kernel⟩, by decide⟩
theorem mkX6_bit : zMk mX6_bit 1 := ⟨zwd_of 53 (by decide +kernel) rfl, zwd_of 419 (by decide +kernel) rfl, ⟨by decide +kernel, by decide +kernel, by decide +kernel⟩, by decide⟩
theorem mkX6_holds : zMk mX6_holds 2 := ⟨zwd_of 53 (by decide +kernel) rfl, zwd_of 411 (by decide +kernel) rfl, ⟨by decide +kernel, by decide +kernel, by decide +kernel⟩, by decide⟩
theorem mkX7_init : zMk mX7_init 0 := ⟨zwd_of 61 (by decide +kernel) rfl, zwd_of 682 (by decide +kernel) rfl, ⟨by decide +kernel, by decide +kernel, by decide +kernel⟩, by decide⟩
theorem mkX7_in : zMk mX7_in 3 := ⟨zwd_of 61 (by decide +kernel) rfl, zwd_of 780 (by decide +kernel) rfl, ⟨by decide +kernel, by decide +kernel, by decide +kernel⟩, by decide⟩
theorem mkX7_isSheet : zMk mX7_isSheet 1 := ⟨zwd_of 61 (by decide +kernel) rfl, zwd_of 776 (by decide +kernel) rfl, ⟨by decide +kernel, by decide +kernel, by decide +kernel⟩, by decide⟩
theorem mkX7_sheet : zMk mX7_sheet 3 := ⟨zwd_of 61 (by decide +kernel) rfl, zwd_of 773 (by decide +kernel) rfl, ⟨by decide +kernel, by decide +kernel, by decide +kernel⟩, by decide⟩
theorem mkX7_against : zMk mX7_against 2 := ⟨zwd_of 61 (by decide +kernel) rfl, zwd_of 790 (by decide +kernel) rfl, ⟨by decide +kernel, by decide +kernel, by decide +kernel⟩, by decide⟩
theorem mkX7_put : zMk mX7_put 3 := ⟨zwd_of 61 (by decide +kernel) rfl, zwd_of 786 (by decide +kernel) rfl, ⟨by decide +kernel, by decide +kernel, by decide +kernel⟩, by decide⟩
theorem mkX7_copy : zMk mX7_copy 5 := ⟨zwd_of 61 (by decide +kernel) rfl, zwd_of 794 (by decide +kernel) rfl, ⟨by decide +kernel, by decide +kernel, by decide +kernel⟩, by decide⟩
theorem mkX7_told : zMk mX7_told 2 := ⟨zwd_of 61 (by decide +kernel) rfl, zwd_of 798 (by decide +kernel) rfl, ⟨by decide +kernel, by decide +kernel, by decide +kernel⟩, by decide⟩
theorem mkX7_isJob : zMk mX7_isJob 1 := ⟨zwd_of 61 (by decide +kernel) rfl, zwd_of 824 (by decide +kernel) rfl, ⟨by decide +kernel, by decide +kernel, by decide +kernel⟩, by decide⟩
theorem mkX7_keep : zMk mX7_keep 0 := ⟨zwd_of 61 (by decide +kernel) rfl, zwd_of 816 (by decide +kernel) rfl, ⟨by decide +kernel, by decide +kernel, by decide +kernel⟩, by decide⟩
theorem mkX7_undo : zMk mX7_undo 0 := ⟨zwd_of 61 (by decide +kernel) rfl, zwd_of 803 (by decide +kernel) rfl, ⟨by decide +kernel, by decide +kernel, by decide +kernel⟩, by decide⟩
theorem mkX7_isHour : zMk mX7_isHour 1 := ⟨zwd_of 61 (by decide +kernel) rfl, zwd_of 810 (by decide +kernel) rfl, ⟨by decide +kernel, by decide +kernel, by decide +kernel⟩, by decide⟩
theorem mkX7_job : zMk mX7_job 3 := ⟨zwd_of 61 (by decide +kernel) rfl, zwd_of 807 (by decide +kernel) rfl, ⟨by decide +kernel, by decide +kernel, by decide +kernel⟩, by decide⟩
theorem mkX7_layBehind : zMk mX7_layBehind 0 := ⟨zwd_of 61 (by decide +kernel) rfl, zwd_of 832 (by decide +kernel) rfl, ⟨by decide +kernel, by decide +kernel, by decide +kernel⟩, by decide⟩
theorem mkX7_isBehind : zMk mX7_isBehind 2 := ⟨zwd_of 61 (by decide +kernel) rfl, zwd_of 836 (by decide +kernel) rfl, ⟨by decide +kernel, by decide +kernel, by decide +kernel⟩, by decide⟩
theorem mkX7_layRing : zMk mX7_layRing 2 := ⟨zwd_of 61 (by decide +kernel) rfl, zwd_of 840 (by decide +kernel) rfl, ⟨by decide +kernel, by decide +kernel, by decide +kernel⟩, by decide⟩
theorem mkX7_wouldRing : zMk mX7_wouldRing 2 := ⟨zwd_of 61 (by decide +kernel) rfl, zwd_of 828 (by decide +kernel) rfl, ⟨by decide +kernel, by decide +kernel, by decide +kernel⟩, by decide⟩
theorem mkX7_after : zMk mX7_after 2 := ⟨zwd_of 61 (by decide +kernel) rfl, zwd_of 820 (by decide +kernel) rfl, ⟨by decide +kernel, by decide +kernel, by decide +kernel⟩, by decide⟩
theorem mkX7_read : zMk mX7_read 4 := ⟨zwd_of 61 (by decide +kernel) rfl, zwd_of 844 (by decide +kernel) rfl, ⟨by decide +kernel, by decide +kernel, by decide +kernel⟩, by decide⟩
theorem mkX7_bits : zMk mX7_bits 1 := ⟨zwd_of 61 (by decide +kernel) rfl, zwd_of 847 (by decide +kernel) rfl, ⟨by decide +kernel, by decide +kernel, by decide +kernel⟩, by decide⟩
theorem mkX7_free : zMk mX7_free 2 := ⟨zwd_of 61 (by decide +kernel) rfl, zwd_of 851 (by decide +kernel) rfl, ⟨by decide +kernel, by decide +kernel, by decide +kernel⟩, by decide⟩
theorem mkX7_ring : zMk mX7_ring 1 := ⟨zwd_of 61 (by decide +kernel) rfl, zwd_of 855 (by decide +kernel) rfl, ⟨by decide +kernel, by decide +kernel, by decide +kernel⟩, by decide⟩
theorem mkX7_nextOf : zMk mX7_nextOf 2 := ⟨zwd_of 61 (by decide +kernel) rfl, zwd_of 872 (by decide +kernel) rfl, ⟨by decide +kernel, by decide +kernel, by decide +kernel⟩, by decide⟩
theorem mkX7_rowOf : zMk mX7_rowOf 1 := ⟨zwd_of 61 (by decide +kernel) rfl, zwd_of 892 (by decide +kernel) rfl, ⟨by decide +kernel, by decide +kernel, by decide +kernel⟩, by decide⟩
theorem mkX7_layLabels : zMk mX7_layLabels 1 := ⟨zwd_of 61 (by decide +kernel) rfl, zwd_of 888 (by decide +kernel) rfl, ⟨by decide +kernel, by decide +kernel, by decide +kernel⟩, by decide⟩
theorem mkX7_greatest : zMk mX7_greatest 2 := ⟨zwd_of 61 (by decide +kernel) rfl, zwd_of 896 (by decide +kernel) rfl, ⟨by decide +kernel, by decide +kernel, by decide +kernel⟩, by decide⟩
theorem mkX7_layDay : zMk mX7_layDay 1 := ⟨zwd_of 61 (by decide +kernel) rfl, zwd_of 884 (by decide +kernel) rfl, ⟨by decide +kernel, by decide +kernel, by decide +kernel⟩, by decide⟩
theorem mkX7_all : zMk mX7_all 0 := ⟨zwd_of 61 (by decide +kernel) rfl, zwd_of 868 (by decide +kernel) rfl, ⟨by decide +kernel, by decide +kernel, by decide +kernel⟩, by decide⟩
theorem mkX7_depthOf : zMk mX7_depthOf 2 := ⟨zwd_of 61 (by decide +kernel) rfl, zwd_of 880 (by decide +kernel) rfl, ⟨by decide +kernel, by decide +kernel, by decide +kernel⟩, by decide⟩
theorem mkX7_layDepths : zMk mX7_layDepths 0 := ⟨zwd_of 61 (by decide +kernel) rfl, zwd_of 876 (by decide +kernel) rfl, ⟨by decide +kernel, by decide +kernel, by decide +kernel⟩, by decide⟩
theorem mkX7_behindOf : zMk mX7_behindOf 1 := ⟨zwd_of 61 (by decide +kernel) rfl, zwd_of 864 (by decide +kernel) rfl, ⟨by decide +kernel, by decide +kernel, by decide +kernel⟩, by decide⟩
theorem mkX7_about : zMk mX7_about 2 := ⟨zwd_of 61 (by decide +kernel) rfl, zwd_of 859 (by decide +kernel) rfl, ⟨by decide +kernel, by decide +kernel, by decide +kernel⟩, by decide⟩
theorem mkX7_least : zMk mX7_least 0 := ⟨zwd_of 61 (by decide +kernel) rfl, zwd_of 920 (by decide +kernel) rfl, ⟨by decide +kernel, by decide +kernel, by decide +kernel⟩, by decide⟩
theorem mkX7_day : zMk mX7_day 2 := ⟨zwd_of 61 (by decide +kernel) rfl, zwd_of 924 (by decide +kernel) rfl, ⟨by decide +kernel, by decide +kernel, by decide +kernel⟩, by decide⟩
theorem mkX7_inHour : zMk mX7_inHour 1 := ⟨zwd_of 61 (by decide +kernel) rfl, zwd_of 932 (by decide +kernel) rfl, ⟨by decide +kernel, by decide +kernel, by decide +kernel⟩, by decide⟩
theorem mkX7_idle : zMk mX7_idle 1 := ⟨zwd_of 61 (by decide +kernel) rfl, zwd_of 928 (by decide +kernel) rfl, ⟨by decide +kernel, by decide +kernel, by decide +kernel⟩, by decide⟩
theorem mkX7_pairs : zMk mX7_pairs 0 := ⟨zwd_of 61 (by decide +kernel) rfl, zwd_of 936 (by decide +kernel) rfl, ⟨by decide +kernel, by decide +kernel, by decide +kernel⟩, by decide⟩
theorem mkX7_rest : zMk mX7_rest 1 := ⟨zwd_of 61 (by decide +kernel) rfl, zwd_of 940 (by decide +kernel) rfl, ⟨by decide +kernel, by decide +kernel, by decide +kernel⟩, by decide⟩
theorem mkX7_may : zMk mX7_may 3 := ⟨zwd_of 61 (by decide +kernel) rfl, zwd_of 909 (by decide +kernel) rfl, ⟨by decide +kernel, by decide +kernel, by decide +kernel⟩, by decide⟩
theorem mkX7_may2 : zMk mX7_may2 2 := ⟨zwd_of 61 (by decide +kernel) rfl, zwd_of 913 (by decide +kernel) rfl, ⟨by decide +kernel, by decide +kernel, by decide +kernel⟩, by decide⟩
theorem mkX7_codeOf : zMk mX7_codeOf 2 := ⟨zwd_of 61 (by decide +kernel) rfl, zwd_of 916 (by decide +kernel) rfl, ⟨by decide +kernel, by decide +kernel, by decide +kernel⟩, by decide⟩
theorem mkX7_bestOf : zMk mX7_bestOf 2 := ⟨zwd_of 61 (by decide +kernel) rfl, zwd_of 905 (by decide +kernel) rfl, ⟨by decide +kernel, by decide +kernel, by decide +kernel⟩, by decide⟩
theorem mkX7_layKept : zMk mX7_layKept 0 := ⟨zwd_of 61 (by decide +kernel) rfl, zwd_of 900 (by decide +kernel) rfl, ⟨by decide +kernel, by decide +kernel, by decide +kernel⟩, by decide⟩
theorem mkX7_kept : zMk mX7_kept 0 := ⟨zwd_of 61 (by decide +kernel) rfl, zwd_of 944 (by decide +kernel) rfl, ⟨by decide +kernel, by decide +kernel, by decide +kernel⟩, by decide⟩
theorem mkX7_code : zMk mX7_code 1 := ⟨zwd_of 61 (by decide +kernel) rfl, zwd_of 948 (by decide +kernel) rfl, ⟨by decide +kernel, by decide +kernel, by decide +kernel⟩, by decide⟩
theorem mkX7_check : zMk mX7_check 1 := ⟨zwd_of 61 (by decide +kernel) rfl, zwd_of 952 (by decide +kernel) rfl, ⟨by decide +kernel, by decide +kernel, by decide +kernel⟩, by decide⟩
theorem mkX7_count : zMk mX7_count 1 := ⟨zwd_of 61 (by decide +kernel) rfl, zwd_of 957 (by decide +kernel) rfl, ⟨by decide +kernel, by decide +kernel, by decide +kernel⟩, by decide⟩
theorem mkJ6_bitCount_0f7a4 : zMk mJ6_bitCount_0f7a4 1 := ⟨zwd_of 63 (by decide +kernel) rfl, zwd_of 456 (by decide +kernel) rfl, ⟨by decide +kernel, by decide +kernel, by decide +kernel⟩, by decide⟩
theorem mkJ9_max_7cf53 : zMk mJ9_max_7cf53 2 := ⟨zwd_of 64 (by decide +kernel) rfl, zwd_of 575 (by decide +kernel) rfl, ⟨by decide +kernel, by decide +kernel, by decide +kernel⟩, by decide⟩
theorem mkJ9_min_7cf53 : zMk mJ9_min_7cf53 2 := ⟨zwd_of 64 (by decide +kernel) rfl, zwd_of 578 (by decide +kernel) rfl, ⟨by decide +kernel, by decide +kernel, by decide +kernel⟩, by decide⟩
theorem mkJ7_fill_53178 : zMk mJ7_fill_53178 2 := ⟨zwd_of 55 (by decide +kernel) rfl, zwd_of 83 (by decide +kernel) rfl, ⟨by decide +kernel, by decide +kernel, by decide +kernel⟩, by decide⟩
theorem c_X6_17 : zCI RX6 17 mX5_init 0 := ⟨zwd_of 77 (by decide +kernel) rfl, zwd_of 78 (by decide +kernel) rfl, rfl, rfl, mkX5_init⟩
theorem c_X6_24 : zCI RX6 24 mX2_init 1 := ⟨zwd_of 136 (by decide +kernel) rfl, zwd_of 137 (by decide +kernel) rfl, rfl, rfl, mkX2_init⟩
theorem c_X6_33 : zCI RX6 33 mX1_init 2 := ⟨zwd_of 172 (by decide +kernel) rfl, zwd_of 173 (by decide +kernel) rfl, rfl, rfl, mkX1_init⟩
theorem c_X6_42 : zCI RX6 42 mX0_init 2 := ⟨zwd_of 214 (by decide +kernel) rfl, zwd_of 215 (by decide +kernel) rfl, rfl, rfl, mkX0_init⟩
theorem c_X6_49 : zCI RX6 49 mX3_init 1 := ⟨zwd_of 266 (by decide +kernel) rfl, zwd_of 267 (by decide +kernel) rfl, rfl, rfl, mkX3_init⟩
theorem c_X6_54 : zCIN RX6 54 mX4_init 0 := ⟨by decide +kernel, zwd_of 285 (by decide +kernel) rfl, rfl, rfl, mkX4_init⟩
theorem c_X6_55 : zCS RX6 55 mX6_isSheet 1 := ⟨zwd_of 323 (by decide +kernel) rfl, zwd_of 324 (by decide +kernel) rfl, mkX6_isSheet⟩
theorem c_X6_59 : zCV RX6 59 mX4_become 2 := ⟨zwd_of 326 (by decide +kernel) rfl, zwd_of 327 (by decide +kernel) rfl, zwd_of 328 (by decide +kernel) rfl, mkX4_become⟩
theorem c_X6_63 : zCV RX6 63 mX4_isMissing 0 := ⟨zwd_of 335 (by decide +kernel) rfl, zwd_of 336 (by decide +kernel) rfl, zwd_of 337 (by decide +kernel) rfl, mkX4_isMissing⟩
theorem c_X6_67 : zCV RX6 67 mX4_hasPlaces 2 := ⟨zwd_of 339 (by decide +kernel) rfl, zwd_of 340 (by decide +kernel) rfl, zwd_of 341 (by decide +kernel) rfl, mkX4_hasPlaces⟩
theorem c_X6_71 : zCV RX6 71 mX4_write 2 := ⟨zwd_of 343 (by decide +kernel) rfl, zwd_of 344 (by decide +kernel) rfl, zwd_of 345 (by decide +kernel) rfl, mkX4_write⟩
theorem c_X6_94 : zCS RX6 94 mX6_isKind 3 := ⟨zwd_of 369 (by decide +kernel) rfl, zwd_of 370 (by decide +kernel) rfl, mkX6_isKind⟩
theorem c_X6_101 : zCV RX6 101 mX5_add 3 := ⟨zwd_of 375 (by decide +kernel) rfl, zwd_of 376 (by decide +kernel) rfl, zwd_of 377 (by decide +kernel) rfl, mkX5_add⟩
theorem c_X6_105 : zCV RX6 105 mX5_has 1 := ⟨zwd_of 388 (by decide +kernel) rfl, zwd_of 389 (by decide +kernel) rfl, zwd_of 390 (by decide +kernel) rfl, mkX5_has⟩
theorem c_X6_108 : zCV RX6 108 mX6_isRefused 2 := ⟨zwd_of 392 (by decide +kernel) rfl, zwd_of 394 (by decide +kernel) rfl, zwd_of 2 (by decide +kernel) rfl, mkX6_isRefused⟩
theorem c_X6_111 : zCS RX6 111 mX6_bit 1 := ⟨zwd_of 449 (by decide +kernel) rfl, zwd_of 418 (by decide +kernel) rfl, mkX6_bit⟩
theorem c_X6_115 : zCV RX6 115 mX5_waitForMore 2 := ⟨zwd_of 450 (by decide +kernel) rfl, zwd_of 451 (by decide +kernel) rfl, zwd_of 452 (by decide +kernel) rfl, mkX5_waitForMore⟩
theorem c_X6_119 : zCV RX6 119 mX6_readPlaces 4 := ⟨zwd_of 464 (by decide +kernel) rfl, zwd_of 466 (by decide +kernel) rfl, zwd_of 10 (by decide +kernel) rfl, mkX6_readPlaces⟩
theorem c_X6_123 : zCV RX6 123 mX5_waitNoMore 2 := ⟨zwd_of 472 (by decide +kernel) rfl, zwd_of 473 (by decide +kernel) rfl, zwd_of 474 (by decide +kernel) rfl, mkX5_waitNoMore⟩
theorem c_X6_126 : zCV RX6 126 mX3_jobAt 1 := ⟨zwd_of 481 (by decide +kernel) rfl, zwd_of 482 (by decide +kernel) rfl, zwd_of 483 (by decide +kernel) rfl, mkX3_jobAt⟩
theorem c_X6_132 : zCV RX6 132 mX5_beginOf 1 := ⟨zwd_of 489 (by decide +kernel) rfl, zwd_of 490 (by decide +kernel) rfl, zwd_of 491 (by decide +kernel) rfl, mkX5_beginOf⟩
theorem c_X6_135 : zCV RX6 135 mX5_endOf 1 := ⟨zwd_of 493 (by decide +kernel) rfl, zwd_of 494 (by decide +kernel) rfl, zwd_of 495 (by decide +kernel) rfl, mkX5_endOf⟩
theorem c_X6_144 : zCV RX6 144 mX6_orderNow 0 := ⟨zwd_of 396 (by decide +kernel) rfl, zwd_of 398 (by decide +kernel) rfl, zwd_of 3 (by decide +kernel) rfl, mkX6_orderNow⟩
theorem c_X6_160 : zCV RX6 160 mX6_labelDayNow 0 := ⟨zwd_of 497 (by decide +kernel) rfl, zwd_of 499 (by decide +kernel) rfl, zwd_of 11 (by decide +kernel) rfl, mkX6_labelDayNow⟩
theorem c_X6_170 : zCV RX6 170 mX6_keptDayNow 0 := ⟨zwd_of 535 (by decide +kernel) rfl, zwd_of 537 (by decide +kernel) rfl, zwd_of 18 (by decide +kernel) rfl, mkX6_keptDayNow⟩
theorem c_X6_175 : zCV RX6 175 mX5_takeBack 0 := ⟨zwd_of 613 (by decide +kernel) rfl, zwd_of 614 (by decide +kernel) rfl, zwd_of 615 (by decide +kernel) rfl, mkX5_takeBack⟩
theorem c_X6_178 : zCS RX6 178 mX6_isBound 1 := ⟨zwd_of 372 (by decide +kernel) rfl, zwd_of 373 (by decide +kernel) rfl, mkX6_isBound⟩
theorem c_X6_181 : zCS RX6 181 mX6_holds 2 := ⟨zwd_of 433 (by decide +kernel) rfl, zwd_of 410 (by decide +kernel) rfl, mkX6_holds⟩
theorem c_X6_184 : zCV RX6 184 mX3_close 2 := ⟨zwd_of 434 (by decide +kernel) rfl, zwd_of 435 (by decide +kernel) rfl, zwd_of 436 (by decide +kernel) rfl, mkX3_close⟩
theorem c_X6_196 : zCV RX6 196 mX1_idleHour 1 := ⟨zwd_of 629 (by decide +kernel) rfl, zwd_of 630 (by decide +kernel) rfl, zwd_of 631 (by decide +kernel) rfl, mkX1_idleHour⟩
theorem c_X6_199 : zCS RX6 199 mJ9_max_7cf53 2 := ⟨zwd_of 641 (by decide +kernel) rfl, zwd_of 574 (by decide +kernel) rfl, mkJ9_max_7cf53⟩
theorem c_X6_208 : zCV RX6 208 mX6_isDay 1 := ⟨zwd_of 654 (by decide +kernel) rfl, zwd_of 656 (by decide +kernel) rfl, zwd_of 29 (by decide +kernel) rfl, mkX6_isDay⟩
theorem c_X6_212 : zCV RX6 212 mX6_keepsToKinds 1 := ⟨zwd_of 661 (by decide +kernel) rfl, zwd_of 663 (by decide +kernel) rfl, zwd_of 30 (by decide +kernel) rfl, mkX6_keepsToKinds⟩
theorem c_X6_215 : zCV RX6 215 mX5_countWaits 0 := ⟨zwd_of 670 (by decide +kernel) rfl, zwd_of 671 (by decide +kernel) rfl, zwd_of 672 (by decide +kernel) rfl, mkX5_countWaits⟩
theorem c_X6_222 : zCV RX6 222 mX1_countIdle 0 := ⟨zwd_of 674 (by decide +kernel) rfl, zwd_of 675 (by decide +kernel) rfl, zwd_of 676 (by decide +kernel) rfl, mkX1_countIdle⟩
theorem c_X6_228 : zCS RX6 228 mX6_hourIn 2 := ⟨zwd_of 658 (by decide +kernel) rfl, zwd_of 659 (by decide +kernel) rfl, mkX6_hourIn⟩
theorem c_X6_238 : zCV RX6 238 mX5_ownedAlike 2 := ⟨zwd_of 665 (by decide +kernel) rfl, zwd_of 566 (by decide +kernel) rfl, zwd_of 567 (by decide +kernel) rfl, mkX5_ownedAlike⟩
theorem c_X6_241 : zCV RX6 241 mX2_renew 0 := ⟨zwd_of 400 (by decide +kernel) rfl, zwd_of 401 (by decide +kernel) rfl, zwd_of 402 (by decide +kernel) rfl, mkX2_renew⟩
theorem c_X6_244 : zCV RX6 244 mX1_renew 0 := ⟨zwd_of 501 (by decide +kernel) rfl, zwd_of 502 (by decide +kernel) rfl, zwd_of 503 (by decide +kernel) rfl, mkX1_renew⟩
theorem c_X6_245 : zCV RX6 245 mX0_renew 0 := ⟨zwd_of 539 (by decide +kernel) rfl, zwd_of 540 (by decide +kernel) rfl, zwd_of 541 (by decide +kernel) rfl, mkX0_renew⟩
theorem c_X0_62 : zCV RX0 62 mX2_renew 0 := ⟨zwd_of 543 (by decide +kernel) rfl, zwd_of 401 (by decide +kernel) rfl, zwd_of 402 (by decide +kernel) rfl, mkX2_renew⟩
theorem c_X0_67 : zCV RX0 67 mX0_listBlocks 0 := ⟨zwd_of 544 (by decide +kernel) rfl, zwd_of 546 (by decide +kernel) rfl, zwd_of 19 (by decide +kernel) rfl, mkX0_listBlocks⟩
theorem c_X0_70 : zCV RX0 70 mX0_findSoonest 0 := ⟨zwd_of 579 (by decide +kernel) rfl, zwd_of 581 (by decide +kernel) rfl, zwd_of 22 (by decide +kernel) rfl, mkX0_findSoonest⟩
theorem c_X0_73 : zCV RX0 73 mX5_all 0 := ⟨zwd_of 583 (by decide +kernel) rfl, zwd_of 429 (by decide +kernel) rfl, zwd_of 430 (by decide +kernel) rfl, mkX5_all⟩
theorem c_X0_77 : zCS RX0 77 mJ7_fill_53178 2 := ⟨zwd_of 588 (by decide +kernel) rfl, zwd_of 82 (by decide +kernel) rfl, mkJ7_fill_53178⟩
theorem c_X0_83 : zCV RX0 83 mX0_findLatest 0 := ⟨zwd_of 589 (by decide +kernel) rfl, zwd_of 591 (by decide +kernel) rfl, zwd_of 24 (by decide +kernel) rfl, mkX0_findLatest⟩
theorem c_X0_86 : zCV RX0 86 mX0_fillHours 0 := ⟨zwd_of 597 (by decide +kernel) rfl, zwd_of 599 (by decide +kernel) rfl, zwd_of 26 (by decide +kernel) rfl, mkX0_fillHours⟩
theorem c_X0_95 : zCV RX0 95 mX0_lesserTwins 1 := ⟨zwd_of 548 (by decide +kernel) rfl, zwd_of 550 (by decide +kernel) rfl, zwd_of 20 (by decide +kernel) rfl, mkX0_lesserTwins⟩
theorem c_X0_99 : zCV RX0 99 mX2_areApart 2 := ⟨zwd_of 561 (by decide +kernel) rfl, zwd_of 562 (by decide +kernel) rfl, zwd_of 563 (by decide +kernel) rfl, mkX2_areApart⟩
theorem c_X0_103 : zCV RX0 103 mX5_ownedAlike 2 := ⟨zwd_of 565 (by decide +kernel) rfl, zwd_of 566 (by decide +kernel) rfl, zwd_of 567 (by decide +kernel) rfl, mkX5_ownedAlike⟩
theorem c_X0_106 : zCSN RX0 106 mX6_bit 1 := ⟨by decide +kernel, zwd_of 418 (by decide +kernel) rfl, mkX6_bit⟩
theorem c_X0_109 : zCV RX0 109 mX0_addBlock 4 := ⟨zwd_of 569 (by decide +kernel) rfl, zwd_of 571 (by decide +kernel) rfl, zwd_of 21 (by decide +kernel) rfl, mkX0_addBlock⟩
theorem c_X0_113 : zCV RX0 113 mX2_areTwins 2 := ⟨zwd_of 552 (by decide +kernel) rfl, zwd_of 553 (by decide +kernel) rfl, zwd_of 554 (by decide +kernel) rfl, mkX2_areTwins⟩
theorem c_X0_116 : zCV RX0 116 mX5_areTwins 2 := ⟨zwd_of 556 (by decide +kernel) rfl, zwd_of 557 (by decide +kernel) rfl, zwd_of 558 (by decide +kernel) rfl, mkX5_areTwins⟩
theorem c_X0_120 : zCS RX0 120 mJ9_max_7cf53 2 := ⟨zwd_of 573 (by decide +kernel) rfl, zwd_of 574 (by decide +kernel) rfl, mkJ9_max_7cf53⟩
theorem c_X0_129 : zCS RX0 129 mJ9_min_7cf53 2 := ⟨zwd_of 576 (by decide +kernel) rfl, zwd_of 577 (by decide +kernel) rfl, mkJ9_min_7cf53⟩
theorem c_X0_132 : zCV RX0 132 mX0_goOnFrom 1 := ⟨zwd_of 584 (by decide +kernel) rfl, zwd_of 586 (by decide +kernel) rfl, zwd_of 23 (by decide +kernel) rfl, mkX0_goOnFrom⟩
theorem c_X0_136 : zCV RX0 136 mX0_latestFor 1 := ⟨zwd_of 593 (by decide +kernel) rfl, zwd_of 595 (by decide +kernel) rfl, zwd_of 25 (by decide +kernel) rfl, mkX0_latestFor⟩
theorem c_X0_139 : zCV RX0 139 mX0_leastCode 2 := ⟨zwd_of 601 (by decide +kernel) rfl, zwd_of 603 (by decide +kernel) rfl, zwd_of 27 (by decide +kernel) rfl, mkX0_leastCode⟩
theorem c_X0_142 : zCV RX0 142 mX0_place 2 := ⟨zwd_of 605 (by decide +kernel) rfl, zwd_of 607 (by decide +kernel) rfl, zwd_of 28 (by decide +kernel) rfl, mkX0_place⟩
theorem c_X1_50 : zCV RX1 50 mX2_renew 0 := ⟨zwd_of 505 (by decide +kernel) rfl, zwd_of 401 (by decide +kernel) rfl, zwd_of 402 (by decide +kernel) rfl, mkX2_renew⟩
theorem c_X1_55 : zCV RX1 55 mX1_giveLabels 0 := ⟨zwd_of 506 (by decide +kernel) rfl, zwd_of 508 (by decide +kernel) rfl, zwd_of 12 (by decide +kernel) rfl, mkX1_giveLabels⟩
theorem c_X1_58 : zCV RX1 58 mX1_fillHours 0 := ⟨zwd_of 522 (by decide +kernel) rfl, zwd_of 524 (by decide +kernel) rfl, zwd_of 15 (by decide +kernel) rfl, mkX1_fillHours⟩
theorem c_X1_61 : zCS RX1 61 mJ7_fill_53178 2 := ⟨zwd_of 510 (by decide +kernel) rfl, zwd_of 82 (by decide +kernel) rfl, mkJ7_fill_53178⟩
theorem c_X1_70 : zCV RX1 70 mX1_firstByRow 1 := ⟨zwd_of 511 (by decide +kernel) rfl, zwd_of 513 (by decide +kernel) rfl, zwd_of 13 (by decide +kernel) rfl, mkX1_firstByRow⟩
theorem c_X1_74 : zCSN RX1 74 mX6_bit 1 := ⟨by decide +kernel, zwd_of 418 (by decide +kernel) rfl, mkX6_bit⟩
theorem c_X1_77 : zCV RX1 77 mX1_tellLabel 2 := ⟨zwd_of 518 (by decide +kernel) rfl, zwd_of 520 (by decide +kernel) rfl, zwd_of 14 (by decide +kernel) rfl, mkX1_tellLabel⟩
theorem c_X1_84 : zCSN RX1 84 mX6_holds 2 := ⟨by decide +kernel, zwd_of 410 (by decide +kernel) rfl, mkX6_holds⟩
theorem c_X1_91 : zCV RX1 91 mX5_all 0 := ⟨zwd_of 526 (by decide +kernel) rfl, zwd_of 429 (by decide +kernel) rfl, zwd_of 430 (by decide +kernel) rfl, mkX5_all⟩
theorem c_X1_95 : zCV RX1 95 mX1_greatestReady 2 := ⟨zwd_of 527 (by decide +kernel) rfl, zwd_of 529 (by decide +kernel) rfl, zwd_of 16 (by decide +kernel) rfl, mkX1_greatestReady⟩
theorem c_X1_99 : zCV RX1 99 mX1_place 2 := ⟨zwd_of 531 (by decide +kernel) rfl, zwd_of 533 (by decide +kernel) rfl, zwd_of 17 (by decide +kernel) rfl, mkX1_place⟩
theorem c_X2_40 : zCV RX2 40 mX2_findBehind 0 := ⟨zwd_of 404 (by decide +kernel) rfl, zwd_of 406 (by decide +kernel) rfl, zwd_of 4 (by decide +kernel) rfl, mkX2_findBehind⟩
theorem c_X2_43 : zCV RX2 43 mX2_findFollowers 0 := ⟨zwd_of 412 (by decide +kernel) rfl, zwd_of 414 (by decide +kernel) rfl, zwd_of 5 (by decide +kernel) rfl, mkX2_findFollowers⟩
theorem c_X2_46 : zCV RX2 46 mX2_findNexts 0 := ⟨zwd_of 420 (by decide +kernel) rfl, zwd_of 422 (by decide +kernel) rfl, zwd_of 6 (by decide +kernel) rfl, mkX2_findNexts⟩
theorem c_X2_49 : zCV RX2 49 mX2_findDepths 0 := ⟨zwd_of 424 (by decide +kernel) rfl, zwd_of 426 (by decide +kernel) rfl, zwd_of 7 (by decide +kernel) rfl, mkX2_findDepths⟩
theorem c_X2_52 : zCSN RX2 52 mX6_holds 2 := ⟨by decide +kernel, zwd_of 410 (by decide +kernel) rfl, mkX6_holds⟩
theorem c_X2_68 : zCS RX2 68 mJ7_fill_53178 2 := ⟨zwd_of 416 (by decide +kernel) rfl, zwd_of 82 (by decide +kernel) rfl, mkJ7_fill_53178⟩
theorem c_X2_74 : zCSN RX2 74 mX6_bit 1 := ⟨by decide +kernel, zwd_of 418 (by decide +kernel) rfl, mkX6_bit⟩
theorem c_X2_78 : zCV RX2 78 mX5_all 0 := ⟨zwd_of 428 (by decide +kernel) rfl, zwd_of 429 (by decide +kernel) rfl, zwd_of 430 (by decide +kernel) rfl, mkX5_all⟩
theorem c_X3_26 : zCV RX3 26 mX3_measure 1 := ⟨zwd_of 438 (by decide +kernel) rfl, zwd_of 440 (by decide +kernel) rfl, zwd_of 8 (by decide +kernel) rfl, mkX3_measure⟩
theorem c_X3_30 : zCV RX3 30 mX3_firstNearer 2 := ⟨zwd_of 445 (by decide +kernel) rfl, zwd_of 447 (by decide +kernel) rfl, zwd_of 9 (by decide +kernel) rfl, mkX3_firstNearer⟩
theorem c_X3_34 : zCS RX3 34 mJ7_fill_53178 2 := ⟨zwd_of 442 (by decide +kernel) rfl, zwd_of 82 (by decide +kernel) rfl, mkJ7_fill_53178⟩
theorem c_X3_40 : zCSN RX3 40 mX6_bit 1 := ⟨by decide +kernel, zwd_of 418 (by decide +kernel) rfl, mkX6_bit⟩
theorem c_X3_49 : zCSN RX3 49 mX6_holds 2 := ⟨by decide +kernel, zwd_of 410 (by decide +kernel) rfl, mkX6_holds⟩
theorem c_X4_22 : zCS RX4 22 mJ7_fill_53178 2 := ⟨zwd_of 330 (by decide +kernel) rfl, zwd_of 82 (by decide +kernel) rfl, mkJ7_fill_53178⟩
theorem c_X4_28 : zCV RX4 28 mX4_cut 1 := ⟨zwd_of 347 (by decide +kernel) rfl, zwd_of 349 (by decide +kernel) rfl, zwd_of 0 (by decide +kernel) rfl, mkX4_cut⟩
theorem c_X5_43 : zCS RX5 43 mJ7_fill_53178 2 := ⟨zwd_of 81 (by decide +kernel) rfl, zwd_of 82 (by decide +kernel) rfl, mkJ7_fill_53178⟩
theorem c_X5_49 : zCSN RX5 49 mX6_bit 1 := ⟨by decide +kernel, zwd_of 418 (by decide +kernel) rfl, mkX6_bit⟩
theorem c_X5_53 : zCV RX5 53 mX5_note 2 := ⟨zwd_of 379 (by decide +kernel) rfl, zwd_of 381 (by decide +kernel) rfl, zwd_of 1 (by decide +kernel) rfl, mkX5_note⟩
theorem c_X5_57 : zCS RX5 57 mJ6_bitCount_0f7a4 1 := ⟨zwd_of 454 (by decide +kernel) rfl, zwd_of 455 (by decide +kernel) rfl, mkJ6_bitCount_0f7a4⟩
theorem c_X5_62 : zCSN RX5 62 mX6_holds 2 := ⟨by decide +kernel, zwd_of 410 (by decide +kernel) rfl, mkX6_holds⟩
theorem c__law_9 : zCI "TwoBenchesLaw" 9 mX6_init 0 := ⟨zwd_of 67 (by decide +kernel) rfl, zwd_of 68 (by decide +kernel) rfl, rfl, rfl, mkX6_init⟩
theorem c__law_12 : zCI "TwoBenchesLaw" 12 mX7_init 0 := ⟨zwd_of 680 (by decide +kernel) rfl, zwd_of 681 (by decide +kernel) rfl, rfl, rfl, mkX7_init⟩
theorem c__law_13 : zCV "TwoBenchesLaw" 13 mX6_sheet 3 := ⟨zwd_of 319 (by decide +kernel) rfl, zwd_of 320 (by decide +kernel) rfl, zwd_of 321 (by decide +kernel) rfl, mkX6_sheet⟩
theorem c__law_17 : zCV "TwoBenchesLaw" 17 mX7_sheet 3 := ⟨zwd_of 770 (by decide +kernel) rfl, zwd_of 771 (by decide +kernel) rfl, zwd_of 772 (by decide +kernel) rfl, mkX7_sheet⟩
theorem c__law_18 : zCV "TwoBenchesLaw" 18 mX6_put 3 := ⟨zwd_of 331 (by decide +kernel) rfl, zwd_of 332 (by decide +kernel) rfl, zwd_of 333 (by decide +kernel) rfl, mkX6_put⟩
theorem c__law_21 : zCV "TwoBenchesLaw" 21 mX7_put 3 := ⟨zwd_of 783 (by decide +kernel) rfl, zwd_of 784 (by decide +kernel) rfl, zwd_of 785 (by decide +kernel) rfl, mkX7_put⟩
theorem c__law_22 : zCV "TwoBenchesLaw" 22 mX6_copy 5 := ⟨zwd_of 351 (by decide +kernel) rfl, zwd_of 352 (by decide +kernel) rfl, zwd_of 353 (by decide +kernel) rfl, mkX6_copy⟩
theorem c__law_26 : zCV "TwoBenchesLaw" 26 mX7_copy 5 := ⟨zwd_of 791 (by decide +kernel) rfl, zwd_of 792 (by decide +kernel) rfl, zwd_of 793 (by decide +kernel) rfl, mkX7_copy⟩
theorem c__law_27 : zCV "TwoBenchesLaw" 27 mX6_told 2 := ⟨zwd_of 358 (by decide +kernel) rfl, zwd_of 359 (by decide +kernel) rfl, zwd_of 360 (by decide +kernel) rfl, mkX6_told⟩
theorem c__law_31 : zCV "TwoBenchesLaw" 31 mX7_told 2 := ⟨zwd_of 795 (by decide +kernel) rfl, zwd_of 796 (by decide +kernel) rfl, zwd_of 797 (by decide +kernel) rfl, mkX7_told⟩
theorem c__law_32 : zCV "TwoBenchesLaw" 32 mX6_job 3 := ⟨zwd_of 365 (by decide +kernel) rfl, zwd_of 366 (by decide +kernel) rfl, zwd_of 367 (by decide +kernel) rfl, mkX6_job⟩
theorem c__law_35 : zCV "TwoBenchesLaw" 35 mX7_job 3 := ⟨zwd_of 804 (by decide +kernel) rfl, zwd_of 805 (by decide +kernel) rfl, zwd_of 806 (by decide +kernel) rfl, mkX7_job⟩
theorem c__law_36 : zCV "TwoBenchesLaw" 36 mX6_after 2 := ⟨zwd_of 384 (by decide +kernel) rfl, zwd_of 385 (by decide +kernel) rfl, zwd_of 386 (by decide +kernel) rfl, mkX6_after⟩
theorem c__law_40 : zCV "TwoBenchesLaw" 40 mX7_after 2 := ⟨zwd_of 817 (by decide +kernel) rfl, zwd_of 818 (by decide +kernel) rfl, zwd_of 819 (by decide +kernel) rfl, mkX7_after⟩
theorem c__law_41 : zCV "TwoBenchesLaw" 41 mX6_read 4 := ⟨zwd_of 460 (by decide +kernel) rfl, zwd_of 461 (by decide +kernel) rfl, zwd_of 462 (by decide +kernel) rfl, mkX6_read⟩
theorem c__law_45 : zCV "TwoBenchesLaw" 45 mX7_read 4 := ⟨zwd_of 841 (by decide +kernel) rfl, zwd_of 842 (by decide +kernel) rfl, zwd_of 843 (by decide +kernel) rfl, mkX7_read⟩
theorem c__law_46 : zCV "TwoBenchesLaw" 46 mX6_free 2 := ⟨zwd_of 468 (by decide +kernel) rfl, zwd_of 469 (by decide +kernel) rfl, zwd_of 470 (by decide +kernel) rfl, mkX6_free⟩
theorem c__law_49 : zCV "TwoBenchesLaw" 49 mX7_free 2 := ⟨zwd_of 848 (by decide +kernel) rfl, zwd_of 849 (by decide +kernel) rfl, zwd_of 850 (by decide +kernel) rfl, mkX7_free⟩
theorem c__law_50 : zCV "TwoBenchesLaw" 50 mX6_ring 1 := ⟨zwd_of 477 (by decide +kernel) rfl, zwd_of 478 (by decide +kernel) rfl, zwd_of 479 (by decide +kernel) rfl, mkX6_ring⟩
theorem c__law_54 : zCV "TwoBenchesLaw" 54 mX7_ring 1 := ⟨zwd_of 852 (by decide +kernel) rfl, zwd_of 853 (by decide +kernel) rfl, zwd_of 854 (by decide +kernel) rfl, mkX7_ring⟩
theorem c__law_55 : zCV "TwoBenchesLaw" 55 mX6_about 2 := ⟨zwd_of 485 (by decide +kernel) rfl, zwd_of 486 (by decide +kernel) rfl, zwd_of 487 (by decide +kernel) rfl, mkX6_about⟩
theorem c__law_58 : zCV "TwoBenchesLaw" 58 mX7_about 2 := ⟨zwd_of 856 (by decide +kernel) rfl, zwd_of 857 (by decide +kernel) rfl, zwd_of 858 (by decide +kernel) rfl, mkX7_about⟩
theorem c__law_59 : zCV "TwoBenchesLaw" 59 mX6_undo 0 := ⟨zwd_of 609 (by decide +kernel) rfl, zwd_of 610 (by decide +kernel) rfl, zwd_of 611 (by decide +kernel) rfl, mkX6_undo⟩
theorem c__law_63 : zCV "TwoBenchesLaw" 63 mX7_undo 0 := ⟨zwd_of 800 (by decide +kernel) rfl, zwd_of 801 (by decide +kernel) rfl, zwd_of 802 (by decide +kernel) rfl, mkX7_undo⟩
theorem c__law_64 : zCV "TwoBenchesLaw" 64 mX6_least 0 := ⟨zwd_of 617 (by decide +kernel) rfl, zwd_of 618 (by decide +kernel) rfl, zwd_of 619 (by decide +kernel) rfl, mkX6_least⟩
theorem c__law_67 : zCV "TwoBenchesLaw" 67 mX7_least 0 := ⟨zwd_of 917 (by decide +kernel) rfl, zwd_of 918 (by decide +kernel) rfl, zwd_of 919 (by decide +kernel) rfl, mkX7_least⟩
theorem c__law_68 : zCV "TwoBenchesLaw" 68 mX6_day 2 := ⟨zwd_of 621 (by decide +kernel) rfl, zwd_of 622 (by decide +kernel) rfl, zwd_of 623 (by decide +kernel) rfl, mkX6_day⟩
theorem c__law_71 : zCV "TwoBenchesLaw" 71 mX7_day 2 := ⟨zwd_of 921 (by decide +kernel) rfl, zwd_of 922 (by decide +kernel) rfl, zwd_of 923 (by decide +kernel) rfl, mkX7_day⟩
theorem c__law_72 : zCV "TwoBenchesLaw" 72 mX6_idle 1 := ⟨zwd_of 625 (by decide +kernel) rfl, zwd_of 626 (by decide +kernel) rfl, zwd_of 627 (by decide +kernel) rfl, mkX6_idle⟩
theorem c__law_75 : zCV "TwoBenchesLaw" 75 mX7_idle 1 := ⟨zwd_of 925 (by decide +kernel) rfl, zwd_of 926 (by decide +kernel) rfl, zwd_of 927 (by decide +kernel) rfl, mkX7_idle⟩
theorem c__law_76 : zCV "TwoBenchesLaw" 76 mX6_pairs 0 := ⟨zwd_of 633 (by decide +kernel) rfl, zwd_of 634 (by decide +kernel) rfl, zwd_of 635 (by decide +kernel) rfl, mkX6_pairs⟩
theorem c__law_79 : zCV "TwoBenchesLaw" 79 mX7_pairs 0 := ⟨zwd_of 933 (by decide +kernel) rfl, zwd_of 934 (by decide +kernel) rfl, zwd_of 935 (by decide +kernel) rfl, mkX7_pairs⟩
theorem c__law_80 : zCV "TwoBenchesLaw" 80 mX6_rest 1 := ⟨zwd_of 637 (by decide +kernel) rfl, zwd_of 638 (by decide +kernel) rfl, zwd_of 639 (by decide +kernel) rfl, mkX6_rest⟩
theorem c__law_83 : zCV "TwoBenchesLaw" 83 mX7_rest 1 := ⟨zwd_of 937 (by decide +kernel) rfl, zwd_of 938 (by decide +kernel) rfl, zwd_of 939 (by decide +kernel) rfl, mkX7_rest⟩
theorem c__law_84 : zCV "TwoBenchesLaw" 84 mX6_kept 0 := ⟨zwd_of 642 (by decide +kernel) rfl, zwd_of 643 (by decide +kernel) rfl, zwd_of 644 (by decide +kernel) rfl, mkX6_kept⟩
theorem c__law_87 : zCV "TwoBenchesLaw" 87 mX7_kept 0 := ⟨zwd_of 941 (by decide +kernel) rfl, zwd_of 942 (by decide +kernel) rfl, zwd_of 943 (by decide +kernel) rfl, mkX7_kept⟩
theorem c__law_88 : zCV "TwoBenchesLaw" 88 mX6_code 1 := ⟨zwd_of 646 (by decide +kernel) rfl, zwd_of 647 (by decide +kernel) rfl, zwd_of 648 (by decide +kernel) rfl, mkX6_code⟩
theorem c__law_91 : zCV "TwoBenchesLaw" 91 mX7_code 1 := ⟨zwd_of 945 (by decide +kernel) rfl, zwd_of 946 (by decide +kernel) rfl, zwd_of 947 (by decide +kernel) rfl, mkX7_code⟩
theorem c__law_94 : zCV "TwoBenchesLaw" 94 mX6_check 1 := ⟨zwd_of 650 (by decide +kernel) rfl, zwd_of 651 (by decide +kernel) rfl, zwd_of 652 (by decide +kernel) rfl, mkX6_check⟩
theorem c__law_98 : zCV "TwoBenchesLaw" 98 mX7_check 1 := ⟨zwd_of 949 (by decide +kernel) rfl, zwd_of 950 (by decide +kernel) rfl, zwd_of 951 (by decide +kernel) rfl, mkX7_check⟩
theorem c__law_99 : zCV "TwoBenchesLaw" 99 mX6_count 1 := ⟨zwd_of 666 (by decide +kernel) rfl, zwd_of 667 (by decide +kernel) rfl, zwd_of 668 (by decide +kernel) rfl, mkX6_count⟩
theorem c__law_102 : zCV "TwoBenchesLaw" 102 mX7_count 1 := ⟨zwd_of 954 (by decide +kernel) rfl, zwd_of 955 (by decide +kernel) rfl, zwd_of 956 (by decide +kernel) rfl, mkX7_count⟩
theorem c_X7_73 : zCS RX7 73 mX7_in 3 := ⟨zwd_of 778 (by decide +kernel) rfl, zwd_of 779 (by decide +kernel) rfl, mkX7_in⟩
theorem c_X7_77 : zCS RX7 77 mX7_isSheet 1 := ⟨zwd_of 774 (by decide +kernel) rfl, zwd_of 775 (by decide +kernel) rfl, mkX7_isSheet⟩
theorem c_X7_85 : zCV RX7 85 mX7_against 2 := ⟨zwd_of 787 (by decide +kernel) rfl, zwd_of 789 (by decide +kernel) rfl, zwd_of 31 (by decide +kernel) rfl, mkX7_against⟩
theorem c_X7_104 : zCS RX7 104 mX7_isHour 1 := ⟨zwd_of 808 (by decide +kernel) rfl, zwd_of 809 (by decide +kernel) rfl, mkX7_isHour⟩
theorem c_X7_109 : zCV RX7 109 mX7_keep 0 := ⟨zwd_of 813 (by decide +kernel) rfl, zwd_of 815 (by decide +kernel) rfl, zwd_of 32 (by decide +kernel) rfl, mkX7_keep⟩
theorem c_X7_115 : zCV RX7 115 mX7_layBehind 0 := ⟨zwd_of 829 (by decide +kernel) rfl, zwd_of 831 (by decide +kernel) rfl, zwd_of 35 (by decide +kernel) rfl, mkX7_layBehind⟩
theorem c_X7_118 : zCV RX7 118 mX7_isBehind 2 := ⟨zwd_of 833 (by decide +kernel) rfl, zwd_of 835 (by decide +kernel) rfl, zwd_of 36 (by decide +kernel) rfl, mkX7_isBehind⟩
theorem c_X7_122 : zCV RX7 122 mX7_isJob 1 := ⟨zwd_of 821 (by decide +kernel) rfl, zwd_of 823 (by decide +kernel) rfl, zwd_of 33 (by decide +kernel) rfl, mkX7_isJob⟩
theorem c_X7_125 : zCV RX7 125 mX7_wouldRing 2 := ⟨zwd_of 825 (by decide +kernel) rfl, zwd_of 827 (by decide +kernel) rfl, zwd_of 34 (by decide +kernel) rfl, mkX7_wouldRing⟩
theorem c_X7_128 : zCV RX7 128 mX7_layRing 2 := ⟨zwd_of 837 (by decide +kernel) rfl, zwd_of 839 (by decide +kernel) rfl, zwd_of 37 (by decide +kernel) rfl, mkX7_layRing⟩
theorem c_X7_132 : zCS RX7 132 mX7_bits 1 := ⟨zwd_of 845 (by decide +kernel) rfl, zwd_of 846 (by decide +kernel) rfl, mkX7_bits⟩
theorem c_X7_136 : zCV RX7 136 mX7_nextOf 2 := ⟨zwd_of 869 (by decide +kernel) rfl, zwd_of 871 (by decide +kernel) rfl, zwd_of 40 (by decide +kernel) rfl, mkX7_nextOf⟩
theorem c_X7_139 : zCV RX7 139 mX7_rowOf 1 := ⟨zwd_of 889 (by decide +kernel) rfl, zwd_of 891 (by decide +kernel) rfl, zwd_of 45 (by decide +kernel) rfl, mkX7_rowOf⟩
theorem c_X7_142 : zCV RX7 142 mX7_layLabels 1 := ⟨zwd_of 885 (by decide +kernel) rfl, zwd_of 887 (by decide +kernel) rfl, zwd_of 44 (by decide +kernel) rfl, mkX7_layLabels⟩
theorem c_X7_149 : zCV RX7 149 mX7_greatest 2 := ⟨zwd_of 893 (by decide +kernel) rfl, zwd_of 895 (by decide +kernel) rfl, zwd_of 46 (by decide +kernel) rfl, mkX7_greatest⟩
theorem c_X7_152 : zCV RX7 152 mX7_depthOf 2 := ⟨zwd_of 877 (by decide +kernel) rfl, zwd_of 879 (by decide +kernel) rfl, zwd_of 42 (by decide +kernel) rfl, mkX7_depthOf⟩
theorem c_X7_158 : zCV RX7 158 mX7_behindOf 1 := ⟨zwd_of 861 (by decide +kernel) rfl, zwd_of 863 (by decide +kernel) rfl, zwd_of 38 (by decide +kernel) rfl, mkX7_behindOf⟩
theorem c_X7_161 : zCV RX7 161 mX7_all 0 := ⟨zwd_of 865 (by decide +kernel) rfl, zwd_of 867 (by decide +kernel) rfl, zwd_of 39 (by decide +kernel) rfl, mkX7_all⟩
theorem c_X7_165 : zCV RX7 165 mX7_layDepths 0 := ⟨zwd_of 873 (by decide +kernel) rfl, zwd_of 875 (by decide +kernel) rfl, zwd_of 41 (by decide +kernel) rfl, mkX7_layDepths⟩
theorem c_X7_168 : zCV RX7 168 mX7_layDay 1 := ⟨zwd_of 881 (by decide +kernel) rfl, zwd_of 883 (by decide +kernel) rfl, zwd_of 43 (by decide +kernel) rfl, mkX7_layDay⟩
theorem c_X7_171 : zCV RX7 171 mX7_layKept 0 := ⟨zwd_of 897 (by decide +kernel) rfl, zwd_of 899 (by decide +kernel) rfl, zwd_of 47 (by decide +kernel) rfl, mkX7_layKept⟩
theorem c_X7_174 : zCV RX7 174 mX7_inHour 1 := ⟨zwd_of 929 (by decide +kernel) rfl, zwd_of 931 (by decide +kernel) rfl, zwd_of 51 (by decide +kernel) rfl, mkX7_inHour⟩
theorem c_X7_183 : zCV RX7 183 mX7_may 3 := ⟨zwd_of 906 (by decide +kernel) rfl, zwd_of 908 (by decide +kernel) rfl, zwd_of 49 (by decide +kernel) rfl, mkX7_may⟩
theorem c_X7_187 : zCV RX7 187 mX7_may2 2 := ⟨zwd_of 910 (by decide +kernel) rfl, zwd_of 912 (by decide +kernel) rfl, zwd_of 50 (by decide +kernel) rfl, mkX7_may2⟩
theorem c_X7_190 : zCS RX7 190 mX7_codeOf 2 := ⟨zwd_of 914 (by decide +kernel) rfl, zwd_of 915 (by decide +kernel) rfl, mkX7_codeOf⟩
theorem c_X7_194 : zCV RX7 194 mX7_bestOf 2 := ⟨zwd_of 902 (by decide +kernel) rfl, zwd_of 904 (by decide +kernel) rfl, zwd_of 48 (by decide +kernel) rfl, mkX7_bestOf⟩
theorem k_X1_83 : Cond.constant RX1 83 (2147483647) ∈ zwd := zwd_of 515 (by decide +kernel) rfl
theorem k_X7_193 : Cond.constant RX7 193 (61440) ∈ zwd := zwd_of 901 (by decide +kernel) rfl
theorem k_X7_61 : Cond.constant RX7 61 (62464) ∈ zwd := zwd_of 684 (by decide +kernel) rfl
theorem k_J6_265 : Cond.constant RJ6 265 (1431655765) ∈ zwd := zwd_of 457 (by decide +kernel) rfl
theorem k_J6_266 : Cond.constant RJ6 266 (858993459) ∈ zwd := zwd_of 458 (by decide +kernel) rfl
theorem k_J6_267 : Cond.constant RJ6 267 (252645135) ∈ zwd := zwd_of 459 (by decide +kernel) rfl
theorem k_X6_88 : Cond.constantLong RX6 88 (10000000001) ∈ zwd := zwd_of 362 (by decide +kernel) rfl
theorem k_X6_90 : Cond.constantLong RX6 90 (10000000011) ∈ zwd := zwd_of 363 (by decide +kernel) rfl
theorem k_X6_92 : Cond.constantLong RX6 92 (10000000012) ∈ zwd := zwd_of 364 (by decide +kernel) rfl
theorem k_law_92 : Cond.constantLong "TwoBenchesLaw" 92 (4294967295) ∈ zwd := zwd_of 958 (by decide +kernel) rfl
theorem k_X7_102 : Cond.constantLong RX7 102 (40) ∈ zwd := zwd_of 811 (by decide +kernel) rfl
theorem k_X7_107 : Cond.constantLong RX7 107 (3) ∈ zwd := zwd_of 812 (by decide +kernel) rfl
theorem k_X7_156 : Cond.constantLong RX7 156 (11) ∈ zwd := zwd_of 860 (by decide +kernel) rfl
theorem k_X7_200 : Cond.constantLong RX7 200 (63) ∈ zwd := zwd_of 953 (by decide +kernel) rfl
theorem k_X7_71 : Cond.constantLong RX7 71 (5) ∈ zwd := zwd_of 777 (by decide +kernel) rfl
theorem k_X7_81 : Cond.constantLong RX7 81 (-1) ∈ zwd := zwd_of 781 (by decide +kernel) rfl
theorem k_X7_83 : Cond.constantLong RX7 83 (2) ∈ zwd := zwd_of 782 (by decide +kernel) rfl
theorem k_X7_89 : Cond.constantLong RX7 89 (10000000000) ∈ zwd := zwd_of 799 (by decide +kernel) rfl
theorem ob_X6_3 : Cond.methodLink RX6 3 objectInit ∈ zwd ∧ Cond.instanceMethod objectInit ∈ zwd ∧ Cond.code objectInit ⟨#[0xb1]⟩ 1 none ∈ zwd := ⟨zwd_of 70 (by decide +kernel) rfl, zwd_of 71 (by decide +kernel) rfl, zwd_of 72 rfl rfl⟩
theorem ob_X0_3 : Cond.methodLink RX0 3 objectInit ∈ zwd ∧ Cond.instanceMethod objectInit ∈ zwd ∧ Cond.code objectInit ⟨#[0xb1]⟩ 1 none ∈ zwd := ⟨zwd_of 217 (by decide +kernel) rfl, zwd_of 71 (by decide +kernel) rfl, zwd_of 72 rfl rfl⟩
theorem ob_X1_3 : Cond.methodLink RX1 3 objectInit ∈ zwd ∧ Cond.instanceMethod objectInit ∈ zwd ∧ Cond.code objectInit ⟨#[0xb1]⟩ 1 none ∈ zwd := ⟨zwd_of 175 (by decide +kernel) rfl, zwd_of 71 (by decide +kernel) rfl, zwd_of 72 rfl rfl⟩
theorem ob_X2_3 : Cond.methodLink RX2 3 objectInit ∈ zwd ∧ Cond.instanceMethod objectInit ∈ zwd ∧ Cond.code objectInit ⟨#[0xb1]⟩ 1 none ∈ zwd := ⟨zwd_of 139 (by decide +kernel) rfl, zwd_of 71 (by decide +kernel) rfl, zwd_of 72 rfl rfl⟩
theorem ob_X3_3 : Cond.methodLink RX3 3 objectInit ∈ zwd ∧ Cond.instanceMethod objectInit ∈ zwd ∧ Cond.code objectInit ⟨#[0xb1]⟩ 1 none ∈ zwd := ⟨zwd_of 269 (by decide +kernel) rfl, zwd_of 71 (by decide +kernel) rfl, zwd_of 72 rfl rfl⟩
theorem ob_X4_3 : Cond.methodLink RX4 3 objectInit ∈ zwd ∧ Cond.instanceMethod objectInit ∈ zwd ∧ Cond.code objectInit ⟨#[0xb1]⟩ 1 none ∈ zwd := ⟨zwd_of 287 (by decide +kernel) rfl, zwd_of 71 (by decide +kernel) rfl, zwd_of 72 rfl rfl⟩
theorem ob_X5_3 : Cond.methodLink RX5 3 objectInit ∈ zwd ∧ Cond.instanceMethod objectInit ∈ zwd ∧ Cond.code objectInit ⟨#[0xb1]⟩ 1 none ∈ zwd := ⟨zwd_of 80 (by decide +kernel) rfl, zwd_of 71 (by decide +kernel) rfl, zwd_of 72 rfl rfl⟩
theorem ob_X7_1 : Cond.methodLink RX7 1 objectInit ∈ zwd ∧ Cond.instanceMethod objectInit ∈ zwd ∧ Cond.code objectInit ⟨#[0xb1]⟩ 1 none ∈ zwd := ⟨zwd_of 683 (by decide +kernel) rfl, zwd_of 71 (by decide +kernel) rfl, zwd_of 72 rfl rfl⟩
theorem ac_X6_82 : Cond.methodLink RX6 82 arraycopyName ∈ zwd ∧ Cond.native arraycopyName ∈ zwd ∧ Cond.static arraycopyName ∈ zwd ∧ Cond.initialized "java/lang/System" ∈ zwd := ⟨zwd_of 355 (by decide +kernel) rfl, zwd_of 357 (by decide +kernel) rfl, zwd_of 356 (by decide +kernel) rfl, zwd_of 62 (by decide +kernel) rfl⟩
theorem ac_X2_62 : Cond.methodLink RX2 62 arraycopyName ∈ zwd ∧ Cond.native arraycopyName ∈ zwd ∧ Cond.static arraycopyName ∈ zwd ∧ Cond.initialized "java/lang/System" ∈ zwd := ⟨zwd_of 408 (by decide +kernel) rfl, zwd_of 357 (by decide +kernel) rfl, zwd_of 356 (by decide +kernel) rfl, zwd_of 62 (by decide +kernel) rfl⟩
theorem ac_X5_66 : Cond.methodLink RX5 66 arraycopyName ∈ zwd ∧ Cond.native arraycopyName ∈ zwd ∧ Cond.static arraycopyName ∈ zwd ∧ Cond.initialized "java/lang/System" ∈ zwd := ⟨zwd_of 383 (by decide +kernel) rfl, zwd_of 357 (by decide +kernel) rfl, zwd_of 356 (by decide +kernel) rfl, zwd_of 62 (by decide +kernel) rfl⟩
theorem nw_X6_15 : Cond.classLink RX6 15 RX5 ∈ zwd ∧ Cond.instantiable RX5 10 ∈ zwd ∧ Cond.initialized RX5 ∈ zwd := ⟨zwd_of 75 (by decide +kernel) rfl, zwd_of 76 (by decide +kernel) rfl, zwd_of 54 (by decide +kernel) rfl⟩
theorem cl_X6_15 : Cond.classLink RX6 15 RX5 ∈ zwd := zwd_of 75 (by decide +kernel) rfl
theorem nw_X6_22 : Cond.classLink RX6 22 RX2 ∈ zwd ∧ Cond.instantiable RX2 7 ∈ zwd ∧ Cond.initialized RX2 ∈ zwd := ⟨zwd_of 134 (by decide +kernel) rfl, zwd_of 135 (by decide +kernel) rfl, zwd_of 56 (by decide +kernel) rfl⟩
theorem cl_X6_22 : Cond.classLink RX6 22 RX2 ∈ zwd := zwd_of 134 (by decide +kernel) rfl
theorem nw_X6_31 : Cond.classLink RX6 31 RX1 ∈ zwd ∧ Cond.instantiable RX1 10 ∈ zwd ∧ Cond.initialized RX1 ∈ zwd := ⟨zwd_of 170 (by decide +kernel) rfl, zwd_of 171 (by decide +kernel) rfl, zwd_of 57 (by decide +kernel) rfl⟩
theorem cl_X6_31 : Cond.classLink RX6 31 RX1 ∈ zwd := zwd_of 170 (by decide +kernel) rfl
theorem nw_X6_40 : Cond.classLink RX6 40 RX0 ∈ zwd ∧ Cond.instantiable RX0 14 ∈ zwd ∧ Cond.initialized RX0 ∈ zwd := ⟨zwd_of 212 (by decide +kernel) rfl, zwd_of 213 (by decide +kernel) rfl, zwd_of 58 (by decide +kernel) rfl⟩
theorem cl_X6_40 : Cond.classLink RX6 40 RX0 ∈ zwd := zwd_of 212 (by decide +kernel) rfl
theorem nw_X6_47 : Cond.classLink RX6 47 RX3 ∈ zwd ∧ Cond.instantiable RX3 4 ∈ zwd ∧ Cond.initialized RX3 ∈ zwd := ⟨zwd_of 264 (by decide +kernel) rfl, zwd_of 265 (by decide +kernel) rfl, zwd_of 59 (by decide +kernel) rfl⟩
theorem cl_X6_47 : Cond.classLink RX6 47 RX3 ∈ zwd := zwd_of 264 (by decide +kernel) rfl
theorem nw_X6_9 : Cond.classLink RX6 9 RX4 ∈ zwd ∧ Cond.instantiable RX4 3 ∈ zwd ∧ Cond.initialized RX4 ∈ zwd := ⟨zwd_of 73 (by decide +kernel) rfl, zwd_of 283 (by decide +kernel) rfl, zwd_of 60 (by decide +kernel) rfl⟩
theorem cl_X6_9 : Cond.classLink RX6 9 RX4 ∈ zwd := zwd_of 73 (by decide +kernel) rfl
theorem nw_law_10 : Cond.classLink "TwoBenchesLaw" 10 RX7 ∈ zwd ∧ Cond.instantiable RX7 28 ∈ zwd ∧ Cond.initialized RX7 ∈ zwd := ⟨zwd_of 678 (by decide +kernel) rfl, zwd_of 679 (by decide +kernel) rfl, zwd_of 61 (by decide +kernel) rfl⟩
theorem cl_law_10 : Cond.classLink "TwoBenchesLaw" 10 RX7 ∈ zwd := zwd_of 678 (by decide +kernel) rfl
theorem nw_law_7 : Cond.classLink "TwoBenchesLaw" 7 RX6 ∈ zwd ∧ Cond.instantiable RX6 6 ∈ zwd ∧ Cond.initialized RX6 ∈ zwd := ⟨zwd_of 65 (by decide +kernel) rfl, zwd_of 66 (by decide +kernel) rfl, zwd_of 53 (by decide +kernel) rfl⟩
theorem cl_law_7 : Cond.classLink "TwoBenchesLaw" 7 RX6 ∈ zwd := zwd_of 65 (by decide +kernel) rfl
theorem arrI : Cond.arrayClass .int ∈ zwd := zwd_of 133 (by decide +kernel) rfl
end
section
/-! contracts of four sorts, and calls by the number of arguments -/
def zI (μ : zM) (as : List Value) (S : List zSh) (σ : zSt) (R : Int32 → zSt → Prop) : Prop := zMet μ as S σ (fun v S' t => ∃ x, v = some (.int x) ∧ S' = S ∧ R x t)
def zJ (μ : zM) (as : List Value) (S : List zSh) (σ : zSt) (R : Int64 → zSt → Prop) : Prop := zMet μ as S σ (fun v S' t => ∃ x, v = some (.long x) ∧ S' = S ∧ R x t)
def zV (μ : zM) (as : List Value) (S : List zSh) (σ : zSt) (R : zSt → Prop) : Prop := zMet μ as S σ (fun v S' t => v = none ∧ S' = S ∧ R t)
def zO (μ : zM) (as : List Value) (S : List zSh) (σ : zSt) (r : Nat) (R : zSt → Prop) : Prop := zMet μ as S σ (fun v S' t => v = some (.ref r) ∧ S' = S ∧ R t)
theorem zI.mono {μ : zM} {as : List Value} {S : List zSh} {σ : zSt} {R R' : Int32 → zSt → Prop} (h : zI μ as S σ R) (hr : ∀ x t, R x t → R' x t) : zI μ as S σ R' := zMet.mono h (fun _ _ _ ⟨x, h1, h2, h3⟩ => ⟨x, h1, h2, hr _ _ h3⟩)
theorem zV.mono {μ : zM} {as : List Value} {S : List zSh} {σ : zSt} {R R' : zSt → Prop} (h : zV μ as S σ R) (hr : ∀ t, R t → R' t) : zV μ as S σ R' := zMet.mono h (fun _ _ _ ⟨h1, h2, h3⟩ => ⟨h1, h2, hr _ h3⟩)
/-- the ends -/
def zQI (S : List zSh) (R : Int32 → zSt → Prop) : Option Value → List zSh → zSt → Prop := fun v S' t => ∃ x, v = some (.int x) ∧ S' = S ∧ R x t
def zQJ (S : List zSh) (R : Int64 → zSt → Prop) : Option Value → List zSh → zSt → Prop := fun v S' t => ∃ x, v = some (.long x) ∧ S' = S ∧ R x t
def zQV (S : List zSh) (R : zSt → Prop) : Option Value → List zSh → zSt → Prop := fun v S' t => v = none ∧ S' = S ∧ R t
def zQO (S : List zSh) (r : Nat) (R : zSt → Prop) : Option Value → List zSh → zSt → Prop := fun v S' t => v = some (.ref r) ∧ S' = S ∧ R t
theorem zI_of {μ : zM} {as : List Value} {S : List zSh} {σ : zSt} {R : Int32 → zSt → Prop} {ls : List (Option Value)} (hp : plainName (zY μ).cls = true) (hlen : Nat.ble (zEs as).length (zL μ) = true) (he : zEn (zL μ) as = ls) (h : zA (zZ μ (zQI S R)) μ none 0 0 0 ls [] S σ) : zI μ as S σ R := zMet_of hp hlen he h
theorem zJ_of {μ : zM} {as : List Value} {S : List zSh} {σ : zSt} {R : Int64 → zSt → Prop} {ls : List (Option Value)} (hp : plainName (zY μ).cls = true) (hlen : Nat.ble (zEs as).length (zL μ) = true) (he : zEn (zL μ) as = ls) (h : zA (zZ μ (zQJ S R)) μ none 0 0 0 ls [] S σ) : zJ μ as S σ R := zMet_of hp hlen he h
theorem zV_of {μ : zM} {as : List Value} {S : List zSh} {σ : zSt} {R : zSt → Prop} {ls : List (Option Value)} (hp : plainName (zY μ).cls = true) (hlen : Nat.ble (zEs as).length (zL μ) = true) (he : zEn (zL μ) as = ls) (h : zA (zZ μ (zQV S R)) μ none 0 0 0 ls [] S σ) : zV μ as S σ R := zMet_of hp hlen he h
theorem zO_of {μ : zM} {as : List Value} {S : List zSh} {σ : zSt} {r : Nat} {R : zSt → Prop} {ls : List (Option Value)} (hp : plainName (zY μ).cls = true) (hlen : Nat.ble (zEs as).length (zL μ) = true) (he : zEn (zL μ) as = ls) (h : zA (zZ μ (zQO S r R)) μ none 0 0 0 ls [] S σ) : zO μ as S σ r R := zMet_of hp hlen he h
section ZA
variable {Z : zZt} {μ : zM} {sc : Option (Nat × (Nat → Int32))} {k n pc : Nat} {ls : List (Option Value)} {st : List Value} {S : List zSh} {σ : zSt}
theorem za_ri {R : Int32 → zSt → Prop} {x : Int32} (d : decode (zB μ) pc = .ok (.ireturn, 1)) (hr : zR μ = some .int) (hk : Nat.ble k (zMc μ) = true) (hn : Nat.ble n (zMs μ) = true) (hq : R x σ) : zA (zZ μ (zQI S R)) μ sc k n pc ls [.int x] S σ := za_ireturn d hr (Nat.le_of_ble_eq_true hk) (Nat.le_of_ble_eq_true hn) ⟨x, rfl, rfl, hq⟩
theorem za_rz {R : Int32 → zSt → Prop} {x : Int32} (d : decode (zB μ) pc = .ok (.ireturn, 1)) (hr : zR μ = some .boolean) (hk : Nat.ble k (zMc μ) = true) (hn : Nat.ble n (zMs μ) = true) (hx : narrow .boolean (.int x) = .int x) (hq : R x σ) : zA (zZ μ (zQI S R)) μ sc k n pc ls [.int x] S σ := za_zreturn d hr hx (Nat.le_of_ble_eq_true hk) (Nat.le_of_ble_eq_true hn) ⟨x, rfl, rfl, hq⟩
theorem za_rl {R : Int64 → zSt → Prop} {x : Int64} (d : decode (zB μ) pc = .ok (.lreturn, 1)) (hr : zR μ = some .long) (hk : Nat.ble k (zMc μ) = true) (hn : Nat.ble n (zMs μ) = true) (hq : R x σ) : zA (zZ μ (zQJ S R)) μ sc k n pc ls [.long x] S σ := za_lreturn d hr (Nat.le_of_ble_eq_true hk) (Nat.le_of_ble_eq_true hn) ⟨x, rfl, rfl, hq⟩
theorem za_rv {R : zSt → Prop} (d : decode (zB μ) pc = .ok (.return_, 1)) (hr : zR μ = none) (hk : Nat.ble k (zMc μ) = true) (hn : Nat.ble n (zMs μ) = true) (hq : R σ) : zA (zZ μ (zQV S R)) μ sc k n pc ls [] S σ := za_return d hr (Nat.le_of_ble_eq_true hk) (Nat.le_of_ble_eq_true hn) ⟨rfl, rfl, hq⟩
theorem za_ra {R : zSt → Prop} {r : Nat} {C : String} (d : decode (zB μ) pc = .ok (.areturn, 1)) (hr : zR μ = some (.object C)) (hk : Nat.ble k (zMc μ) = true) (hn : Nat.ble n (zMs μ) = true) (hq : R σ) : zA (zZ μ (zQO S r R)) μ sc k n pc ls [.ref r] S σ := za_areturn d hr (Nat.le_of_ble_eq_true hk) (Nat.le_of_ble_eq_true hn) ⟨rfl, rfl, hq⟩
theorem za_cV0i {μ' : zM} {idx b ci : Nat} {fs : List (Option (Option Nat))} {R : Int32 → zSt → Prop} (d : decode (zB μ) pc = .ok (.invokevirtual idx, 3)) (cw : zCV (zY μ).cls idx μ' 0) (hs : S[b]? = some (.inr (.inr (ci, fs)))) (hci : (zcl[ci]?).map (fun q => q.1) = some (zY μ').cls) (hdp : Nat.ble (zDp μ' + 1) (zDp μ) = true) (hrm : zMc μ' = 0 ∧ zMs μ' = 0) (hkn : Nat.ble k (zMc μ) = true ∧ Nat.ble n (zMs μ) = true) (hst : Nat.ble (st.map fun v => v.category).sum 8 = true) (hol : ls.all (zoko S.length) = true) (hos : st.all (zokv S.length) = true) (hM : zI μ' (.ref b :: []) S σ R) (kk : ∀ (x : Int32) (t : zSt), R x t → zA Z μ sc k n (pc + 3) ls (.int x :: st) S t) : zA Z μ sc k n pc ls (.ref b :: st) S σ := by
  refine za_callV (As := []) d cw hs hci hdp ⟨by rw [hrm.1]; exact hkn.1, by rw [hrm.2]; exact hkn.2⟩ hst hol hos hM (fun v S' σ' hq _ => ?_)
  rw [hrm.1, hrm.2]
  obtain ⟨x, rfl, rfl, hR⟩ := hq
  exact kk x σ' hR
theorem za_cV0l {μ' : zM} {idx b ci : Nat} {fs : List (Option (Option Nat))} {R : Int64 → zSt → Prop} (d : decode (zB μ) pc = .ok (.invokevirtual idx, 3)) (cw : zCV (zY μ).cls idx μ' 0) (hs : S[b]? = some (.inr (.inr (ci, fs)))) (hci : (zcl[ci]?).map (fun q => q.1) = some (zY μ').cls) (hdp : Nat.ble (zDp μ' + 1) (zDp μ) = true) (hrm : zMc μ' = 0 ∧ zMs μ' = 0) (hkn : Nat.ble k (zMc μ) = true ∧ Nat.ble n (zMs μ) = true) (hst : Nat.ble (st.map fun v => v.category).sum 8 = true) (hol : ls.all (zoko S.length) = true) (hos : st.all (zokv S.length) = true) (hM : zJ μ' (.ref b :: []) S σ R) (kk : ∀ (x : Int64) (t : zSt), R x t → zA Z μ sc k n (pc + 3) ls (.long x :: st) S t) : zA Z μ sc k n pc ls (.ref b :: st) S σ := by
  refine za_callV (As := []) d cw hs hci hdp ⟨by rw [hrm.1]; exact hkn.1, by rw [hrm.2]; exact hkn.2⟩ hst hol hos hM (fun v S' σ' hq _ => ?_)
  rw [hrm.1, hrm.2]
  obtain ⟨x, rfl, rfl, hR⟩ := hq
  exact kk x σ' hR
theorem za_cV0v {μ' : zM} {idx b ci : Nat} {fs : List (Option (Option Nat))} {R : zSt → Prop} (d : decode (zB μ) pc = .ok (.invokevirtual idx, 3)) (cw : zCV (zY μ).cls idx μ' 0) (hs : S[b]? = some (.inr (.inr (ci, fs)))) (hci : (zcl[ci]?).map (fun q => q.1) = some (zY μ').cls) (hdp : Nat.ble (zDp μ' + 1) (zDp μ) = true) (hrm : zMc μ' = 0 ∧ zMs μ' = 0) (hkn : Nat.ble k (zMc μ) = true ∧ Nat.ble n (zMs μ) = true) (hst : Nat.ble (st.map fun v => v.category).sum 8 = true) (hol : ls.all (zoko S.length) = true) (hos : st.all (zokv S.length) = true) (hM : zV μ' (.ref b :: []) S σ R) (kk : ∀ (t : zSt), R t → zA Z μ sc k n (pc + 3) ls st S t) : zA Z μ sc k n pc ls (.ref b :: st) S σ := by
  refine za_callV (As := []) d cw hs hci hdp ⟨by rw [hrm.1]; exact hkn.1, by rw [hrm.2]; exact hkn.2⟩ hst hol hos hM (fun v S' σ' hq _ => ?_)
  rw [hrm.1, hrm.2]
  obtain ⟨rfl, rfl, hR⟩ := hq
  exact kk σ' hR
theorem za_cV0r {μ' : zM} {idx b ci : Nat} {fs : List (Option (Option Nat))} {R : zSt → Prop} {r : Nat} (d : decode (zB μ) pc = .ok (.invokevirtual idx, 3)) (cw : zCV (zY μ).cls idx μ' 0) (hs : S[b]? = some (.inr (.inr (ci, fs)))) (hci : (zcl[ci]?).map (fun q => q.1) = some (zY μ').cls) (hdp : Nat.ble (zDp μ' + 1) (zDp μ) = true) (hrm : zMc μ' = 0 ∧ zMs μ' = 0) (hkn : Nat.ble k (zMc μ) = true ∧ Nat.ble n (zMs μ) = true) (hst : Nat.ble (st.map fun v => v.category).sum 8 = true) (hol : ls.all (zoko S.length) = true) (hos : st.all (zokv S.length) = true) (hM : zO μ' (.ref b :: []) S σ r R) (kk : ∀ (t : zSt), R t → zA Z μ sc k n (pc + 3) ls (.ref r :: st) S t) : zA Z μ sc k n pc ls (.ref b :: st) S σ := by
  refine za_callV (As := []) d cw hs hci hdp ⟨by rw [hrm.1]; exact hkn.1, by rw [hrm.2]; exact hkn.2⟩ hst hol hos hM (fun v S' σ' hq _ => ?_)
  rw [hrm.1, hrm.2]
  obtain ⟨rfl, rfl, hR⟩ := hq
  exact kk σ' hR
theorem za_cV1i {μ' : zM} {idx b ci : Nat} {fs : List (Option (Option Nat))} {a1 : Value} {R : Int32 → zSt → Prop} (d : decode (zB μ) pc = .ok (.invokevirtual idx, 3)) (cw : zCV (zY μ).cls idx μ' 1) (hs : S[b]? = some (.inr (.inr (ci, fs)))) (hci : (zcl[ci]?).map (fun q => q.1) = some (zY μ').cls) (hdp : Nat.ble (zDp μ' + 1) (zDp μ) = true) (hrm : zMc μ' = 0 ∧ zMs μ' = 0) (hkn : Nat.ble k (zMc μ) = true ∧ Nat.ble n (zMs μ) = true) (hst : Nat.ble (st.map fun v => v.category).sum 8 = true) (hol : ls.all (zoko S.length) = true) (hos : st.all (zokv S.length) = true) (hM : zI μ' (.ref b :: [a1]) S σ R) (kk : ∀ (x : Int32) (t : zSt), R x t → zA Z μ sc k n (pc + 3) ls (.int x :: st) S t) : zA Z μ sc k n pc ls (a1 :: .ref b :: st) S σ := by
  refine za_callV (As := [a1]) d cw hs hci hdp ⟨by rw [hrm.1]; exact hkn.1, by rw [hrm.2]; exact hkn.2⟩ hst hol hos hM (fun v S' σ' hq _ => ?_)
  rw [hrm.1, hrm.2]
  obtain ⟨x, rfl, rfl, hR⟩ := hq
  exact kk x σ' hR
theorem za_cV1l {μ' : zM} {idx b ci : Nat} {fs : List (Option (Option Nat))} {a1 : Value} {R : Int64 → zSt → Prop} (d : decode (zB μ) pc = .ok (.invokevirtual idx, 3)) (cw : zCV (zY μ).cls idx μ' 1) (hs : S[b]? = some (.inr (.inr (ci, fs)))) (hci : (zcl[ci]?).map (fun q => q.1) = some (zY μ').cls) (hdp : Nat.ble (zDp μ' + 1) (zDp μ) = true) (hrm : zMc μ' = 0 ∧ zMs μ' = 0) (hkn : Nat.ble k (zMc μ) = true ∧ Nat.ble n (zMs μ) = true) (hst : Nat.ble (st.map fun v => v.category).sum 8 = true) (hol : ls.all (zoko S.length) = true) (hos : st.all (zokv S.length) = true) (hM : zJ μ' (.ref b :: [a1]) S σ R) (kk : ∀ (x : Int64) (t : zSt), R x t → zA Z μ sc k n (pc + 3) ls (.long x :: st) S t) : zA Z μ sc k n pc ls (a1 :: .ref b :: st) S σ := by
  refine za_callV (As := [a1]) d cw hs hci hdp ⟨by rw [hrm.1]; exact hkn.1, by rw [hrm.2]; exact hkn.2⟩ hst hol hos hM (fun v S' σ' hq _ => ?_)
  rw [hrm.1, hrm.2]
  obtain ⟨x, rfl, rfl, hR⟩ := hq
  exact kk x σ' hR
theorem za_cV1v {μ' : zM} {idx b ci : Nat} {fs : List (Option (Option Nat))} {a1 : Value} {R : zSt → Prop} (d : decode (zB μ) pc = .ok (.invokevirtual idx, 3)) (cw : zCV (zY μ).cls idx μ' 1) (hs : S[b]? = some (.inr (.inr (ci, fs)))) (hci : (zcl[ci]?).map (fun q => q.1) = some (zY μ').cls) (hdp : Nat.ble (zDp μ' + 1) (zDp μ) = true) (hrm : zMc μ' = 0 ∧ zMs μ' = 0) (hkn : Nat.ble k (zMc μ) = true ∧ Nat.ble n (zMs μ) = true) (hst : Nat.ble (st.map fun v => v.category).sum 8 = true) (hol : ls.all (zoko S.length) = true) (hos : st.all (zokv S.length) = true) (hM : zV μ' (.ref b :: [a1]) S σ R) (kk : ∀ (t : zSt), R t → zA Z μ sc k n (pc + 3) ls st S t) : zA Z μ sc k n pc ls (a1 :: .ref b :: st) S σ := by
  refine za_callV (As := [a1]) d cw hs hci hdp ⟨by rw [hrm.1]; exact hkn.1, by rw [hrm.2]; exact hkn.2⟩ hst hol hos hM (fun v S' σ' hq _ => ?_)
  rw [hrm.1, hrm.2]
  obtain ⟨rfl, rfl, hR⟩ := hq
  exact kk σ' hR
theorem za_cV1r {μ' : zM} {idx b ci : Nat} {fs : List (Option (Option Nat))} {a1 : Value} {R : zSt → Prop} {r : Nat} (d : decode (zB μ) pc = .ok (.invokevirtual idx, 3)) (cw : zCV (zY μ).cls idx μ' 1) (hs : S[b]? = some (.inr (.inr (ci, fs)))) (hci : (zcl[ci]?).map (fun q => q.1) = some (zY μ').cls) (hdp : Nat.ble (zDp μ' + 1) (zDp μ) = true) (hrm : zMc μ' = 0 ∧ zMs μ' = 0) (hkn : Nat.ble k (zMc μ) = true ∧ Nat.ble n (zMs μ) = true) (hst : Nat.ble (st.map fun v => v.category).sum 8 = true) (hol : ls.all (zoko S.length) = true) (hos : st.all (zokv S.length) = true) (hM : zO μ' (.ref b :: [a1]) S σ r R) (kk : ∀ (t : zSt), R t → zA Z μ sc k n (pc + 3) ls (.ref r :: st) S t) : zA Z μ sc k n pc ls (a1 :: .ref b :: st) S σ := by
  refine za_callV (As := [a1]) d cw hs hci hdp ⟨by rw [hrm.1]; exact hkn.1, by rw [hrm.2]; exact hkn.2⟩ hst hol hos hM (fun v S' σ' hq _ => ?_)
  rw [hrm.1, hrm.2]
  obtain ⟨rfl, rfl, hR⟩ := hq
  exact kk σ' hR
theorem za_cV2i {μ' : zM} {idx b ci : Nat} {fs : List (Option (Option Nat))} {a1 a2 : Value} {R : Int32 → zSt → Prop} (d : decode (zB μ) pc = .ok (.invokevirtual idx, 3)) (cw : zCV (zY μ).cls idx μ' 2) (hs : S[b]? = some (.inr (.inr (ci, fs)))) (hci : (zcl[ci]?).map (fun q => q.1) = some (zY μ').cls) (hdp : Nat.ble (zDp μ' + 1) (zDp μ) = true) (hrm : zMc μ' = 0 ∧ zMs μ' = 0) (hkn : Nat.ble k (zMc μ) = true ∧ Nat.ble n (zMs μ) = true) (hst : Nat.ble (st.map fun v => v.category).sum 8 = true) (hol : ls.all (zoko S.length) = true) (hos : st.all (zokv S.length) = true) (hM : zI μ' (.ref b :: [a1, a2]) S σ R) (kk : ∀ (x : Int32) (t : zSt), R x t → zA Z μ sc k n (pc + 3) ls (.int x :: st) S t) : zA Z μ sc k n pc ls (a2 :: a1 :: .ref b :: st) S σ := by
  refine za_callV (As := [a1, a2]) d cw hs hci hdp ⟨by rw [hrm.1]; exact hkn.1, by rw [hrm.2]; exact hkn.2⟩ hst hol hos hM (fun v S' σ' hq _ => ?_)
  rw [hrm.1, hrm.2]
  obtain ⟨x, rfl, rfl, hR⟩ := hq
  exact kk x σ' hR
theorem za_cV2l {μ' : zM} {idx b ci : Nat} {fs : List (Option (Option Nat))} {a1 a2 : Value} {R : Int64 → zSt → Prop} (d : decode (zB μ) pc = .ok (.invokevirtual idx, 3)) (cw : zCV (zY μ).cls idx μ' 2) (hs : S[b]? = some (.inr (.inr (ci, fs)))) (hci : (zcl[ci]?).map (fun q => q.1) = some (zY μ').cls) (hdp : Nat.ble (zDp μ' + 1) (zDp μ) = true) (hrm : zMc μ' = 0 ∧ zMs μ' = 0) (hkn : Nat.ble k (zMc μ) = true ∧ Nat.ble n (zMs μ) = true) (hst : Nat.ble (st.map fun v => v.category).sum 8 = true) (hol : ls.all (zoko S.length) = true) (hos : st.all (zokv S.length) = true) (hM : zJ μ' (.ref b :: [a1, a2]) S σ R) (kk : ∀ (x : Int64) (t : zSt), R x t → zA Z μ sc k n (pc + 3) ls (.long x :: st) S t) : zA Z μ sc k n pc ls (a2 :: a1 :: .ref b :: st) S σ := by
  refine za_callV (As := [a1, a2]) d cw hs hci hdp ⟨by rw [hrm.1]; exact hkn.1, by rw [hrm.2]; exact hkn.2⟩ hst hol hos hM (fun v S' σ' hq _ => ?_)
  rw [hrm.1, hrm.2]
  obtain ⟨x, rfl, rfl, hR⟩ := hq
  exact kk x σ' hR
theorem za_cV2v {μ' : zM} {idx b ci : Nat} {fs : List (Option (Option Nat))} {a1 a2 : Value} {R : zSt → Prop} (d : decode (zB μ) pc = .ok (.invokevirtual idx, 3)) (cw : zCV (zY μ).cls idx μ' 2) (hs : S[b]? = some (.inr (.inr (ci, fs)))) (hci : (zcl[ci]?).map (fun q => q.1) = some (zY μ').cls) (hdp : Nat.ble (zDp μ' + 1) (zDp μ) = true) (hrm : zMc μ' = 0 ∧ zMs μ' = 0) (hkn : Nat.ble k (zMc μ) = true ∧ Nat.ble n (zMs μ) = true) (hst : Nat.ble (st.map fun v => v.category).sum 8 = true) (hol : ls.all (zoko S.length) = true) (hos : st.all (zokv S.length) = true) (hM : zV μ' (.ref b :: [a1, a2]) S σ R) (kk : ∀ (t : zSt), R t → zA Z μ sc k n (pc + 3) ls st S t) : zA Z μ sc k n pc ls (a2 :: a1 :: .ref b :: st) S σ := by
  refine za_callV (As := [a1, a2]) d cw hs hci hdp ⟨by rw [hrm.1]; exact hkn.1, by rw [hrm.2]; exact hkn.2⟩ hst hol hos hM (fun v S' σ' hq _ => ?_)
  rw [hrm.1, hrm.2]
  obtain ⟨rfl, rfl, hR⟩ := hq
  exact kk σ' hR
theorem za_cV2r {μ' : zM} {idx b ci : Nat} {fs : List (Option (Option Nat))} {a1 a2 : Value} {R : zSt → Prop} {r : Nat} (d : decode (zB μ) pc = .ok (.invokevirtual idx, 3)) (cw : zCV (zY μ).cls idx μ' 2) (hs : S[b]? = some (.inr (.inr (ci, fs)))) (hci : (zcl[ci]?).map (fun q => q.1) = some (zY μ').cls) (hdp : Nat.ble (zDp μ' + 1) (zDp μ) = true) (hrm : zMc μ' = 0 ∧ zMs μ' = 0) (hkn : Nat.ble k (zMc μ) = true ∧ Nat.ble n (zMs μ) = true) (hst : Nat.ble (st.map fun v => v.category).sum 8 = true) (hol : ls.all (zoko S.length) = true) (hos : st.all (zokv S.length) = true) (hM : zO μ' (.ref b :: [a1, a2]) S σ r R) (kk : ∀ (t : zSt), R t → zA Z μ sc k n (pc + 3) ls (.ref r :: st) S t) : zA Z μ sc k n pc ls (a2 :: a1 :: .ref b :: st) S σ := by
  refine za_callV (As := [a1, a2]) d cw hs hci hdp ⟨by rw [hrm.1]; exact hkn.1, by rw [hrm.2]; exact hkn.2⟩ hst hol hos hM (fun v S' σ' hq _ => ?_)
  rw [hrm.1, hrm.2]
  obtain ⟨rfl, rfl, hR⟩ := hq
  exact kk σ' hR
theorem za_cV3i {μ' : zM} {idx b ci : Nat} {fs : List (Option (Option Nat))} {a1 a2 a3 : Value} {R : Int32 → zSt → Prop} (d : decode (zB μ) pc = .ok (.invokevirtual idx, 3)) (cw : zCV (zY μ).cls idx μ' 3) (hs : S[b]? = some (.inr (.inr (ci, fs)))) (hci : (zcl[ci]?).map (fun q => q.1) = some (zY μ').cls) (hdp : Nat.ble (zDp μ' + 1) (zDp μ) = true) (hrm : zMc μ' = 0 ∧ zMs μ' = 0) (hkn : Nat.ble k (zMc μ) = true ∧ Nat.ble n (zMs μ) = true) (hst : Nat.ble (st.map fun v => v.category).sum 8 = true) (hol : ls.all (zoko S.length) = true) (hos : st.all (zokv S.length) = true) (hM : zI μ' (.ref b :: [a1, a2, a3]) S σ R) (kk : ∀ (x : Int32) (t : zSt), R x t → zA Z μ sc k n (pc + 3) ls (.int x :: st) S t) : zA Z μ sc k n pc ls (a3 :: a2 :: a1 :: .ref b :: st) S σ := by
  refine za_callV (As := [a1, a2, a3]) d cw hs hci hdp ⟨by rw [hrm.1]; exact hkn.1, by rw [hrm.2]; exact hkn.2⟩ hst hol hos hM (fun v S' σ' hq _ => ?_)
  rw [hrm.1, hrm.2]
  obtain ⟨x, rfl, rfl, hR⟩ := hq
  exact kk x σ' hR
theorem za_cV3l {μ' : zM} {idx b ci : Nat} {fs : List (Option (Option Nat))} {a1 a2 a3 : Value} {R : Int64 → zSt → Prop} (d : decode (zB μ) pc = .ok (.invokevirtual idx, 3)) (cw : zCV (zY μ).cls idx μ' 3) (hs : S[b]? = some (.inr (.inr (ci, fs)))) (hci : (zcl[ci]?).map (fun q => q.1) = some (zY μ').cls) (hdp : Nat.ble (zDp μ' + 1) (zDp μ) = true) (hrm : zMc μ' = 0 ∧ zMs μ' = 0) (hkn : Nat.ble k (zMc μ) = true ∧ Nat.ble n (zMs μ) = true) (hst : Nat.ble (st.map fun v => v.category).sum 8 = true) (hol : ls.all (zoko S.length) = true) (hos : st.all (zokv S.length) = true) (hM : zJ μ' (.ref b :: [a1, a2, a3]) S σ R) (kk : ∀ (x : Int64) (t : zSt), R x t → zA Z μ sc k n (pc + 3) ls (.long x :: st) S t) : zA Z μ sc k n pc ls (a3 :: a2 :: a1 :: .ref b :: st) S σ := by
  refine za_callV (As := [a1, a2, a3]) d cw hs hci hdp ⟨by rw [hrm.1]; exact hkn.1, by rw [hrm.2]; exact hkn.2⟩ hst hol hos hM (fun v S' σ' hq _ => ?_)
  rw [hrm.1, hrm.2]
  obtain ⟨x, rfl, rfl, hR⟩ := hq
  exact kk x σ' hR
theorem za_cV3v {μ' : zM} {idx b ci : Nat} {fs : List (Option (Option Nat))} {a1 a2 a3 : Value} {R : zSt → Prop} (d : decode (zB μ) pc = .ok (.invokevirtual idx, 3)) (cw : zCV (zY μ).cls idx μ' 3) (hs : S[b]? = some (.inr (.inr (ci, fs)))) (hci : (zcl[ci]?).map (fun q => q.1) = some (zY μ').cls) (hdp : Nat.ble (zDp μ' + 1) (zDp μ) = true) (hrm : zMc μ' = 0 ∧ zMs μ' = 0) (hkn : Nat.ble k (zMc μ) = true ∧ Nat.ble n (zMs μ) = true) (hst : Nat.ble (st.map fun v => v.category).sum 8 = true) (hol : ls.all (zoko S.length) = true) (hos : st.all (zokv S.length) = true) (hM : zV μ' (.ref b :: [a1, a2, a3]) S σ R) (kk : ∀ (t : zSt), R t → zA Z μ sc k n (pc + 3) ls st S t) : zA Z μ sc k n pc ls (a3 :: a2 :: a1 :: .ref b :: st) S σ := by
  refine za_callV (As := [a1, a2, a3]) d cw hs hci hdp ⟨by rw [hrm.1]; exact hkn.1, by rw [hrm.2]; exact hkn.2⟩ hst hol hos hM (fun v S' σ' hq _ => ?_)
  rw [hrm.1, hrm.2]
  obtain ⟨rfl, rfl, hR⟩ := hq
  exact kk σ' hR
theorem za_cV3r {μ' : zM} {idx b ci : Nat} {fs : List (Option (Option Nat))} {a1 a2 a3 : Value} {R : zSt → Prop} {r : Nat} (d : decode (zB μ) pc = .ok (.invokevirtual idx, 3)) (cw : zCV (zY μ).cls idx μ' 3) (hs : S[b]? = some (.inr (.inr (ci, fs)))) (hci : (zcl[ci]?).map (fun q => q.1) = some (zY μ').cls) (hdp : Nat.ble (zDp μ' + 1) (zDp μ) = true) (hrm : zMc μ' = 0 ∧ zMs μ' = 0) (hkn : Nat.ble k (zMc μ) = true ∧ Nat.ble n (zMs μ) = true) (hst : Nat.ble (st.map fun v => v.category).sum 8 = true) (hol : ls.all (zoko S.length) = true) (hos : st.all (zokv S.length) = true) (hM : zO μ' (.ref b :: [a1, a2, a3]) S σ r R) (kk : ∀ (t : zSt), R t → zA Z μ sc k n (pc + 3) ls (.ref r :: st) S t) : zA Z μ sc k n pc ls (a3 :: a2 :: a1 :: .ref b :: st) S σ := by
  refine za_callV (As := [a1, a2, a3]) d cw hs hci hdp ⟨by rw [hrm.1]; exact hkn.1, by rw [hrm.2]; exact hkn.2⟩ hst hol hos hM (fun v S' σ' hq _ => ?_)
  rw [hrm.1, hrm.2]
  obtain ⟨rfl, rfl, hR⟩ := hq
  exact kk σ' hR
theorem za_cV4i {μ' : zM} {idx b ci : Nat} {fs : List (Option (Option Nat))} {a1 a2 a3 a4 : Value} {R : Int32 → zSt → Prop} (d : decode (zB μ) pc = .ok (.invokevirtual idx, 3)) (cw : zCV (zY μ).cls idx μ' 4) (hs : S[b]? = some (.inr (.inr (ci, fs)))) (hci : (zcl[ci]?).map (fun q => q.1) = some (zY μ').cls) (hdp : Nat.ble (zDp μ' + 1) (zDp μ) = true) (hrm : zMc μ' = 0 ∧ zMs μ' = 0) (hkn : Nat.ble k (zMc μ) = true ∧ Nat.ble n (zMs μ) = true) (hst : Nat.ble (st.map fun v => v.category).sum 8 = true) (hol : ls.all (zoko S.length) = true) (hos : st.all (zokv S.length) = true) (hM : zI μ' (.ref b :: [a1, a2, a3, a4]) S σ R) (kk : ∀ (x : Int32) (t : zSt), R x t → zA Z μ sc k n (pc + 3) ls (.int x :: st) S t) : zA Z μ sc k n pc ls (a4 :: a3 :: a2 :: a1 :: .ref b :: st) S σ := by
  refine za_callV (As := [a1, a2, a3, a4]) d cw hs hci hdp ⟨by rw [hrm.1]; exact hkn.1, by rw [hrm.2]; exact hkn.2⟩ hst hol hos hM (fun v S' σ' hq _ => ?_)
  rw [hrm.1, hrm.2]
  obtain ⟨x, rfl, rfl, hR⟩ := hq
  exact kk x σ' hR
theorem za_cV4l {μ' : zM} {idx b ci : Nat} {fs : List (Option (Option Nat))} {a1 a2 a3 a4 : Value} {R : Int64 → zSt → Prop} (d : decode (zB μ) pc = .ok (.invokevirtual idx, 3)) (cw : zCV (zY μ).cls idx μ' 4) (hs : S[b]? = some (.inr (.inr (ci, fs)))) (hci : (zcl[ci]?).map (fun q => q.1) = some (zY μ').cls) (hdp : Nat.ble (zDp μ' + 1) (zDp μ) = true) (hrm : zMc μ' = 0 ∧ zMs μ' = 0) (hkn : Nat.ble k (zMc μ) = true ∧ Nat.ble n (zMs μ) = true) (hst : Nat.ble (st.map fun v => v.category).sum 8 = true) (hol : ls.all (zoko S.length) = true) (hos : st.all (zokv S.length) = true) (hM : zJ μ' (.ref b :: [a1, a2, a3, a4]) S σ R) (kk : ∀ (x : Int64) (t : zSt), R x t → zA Z μ sc k n (pc + 3) ls (.long x :: st) S t) : zA Z μ sc k n pc ls (a4 :: a3 :: a2 :: a1 :: .ref b :: st) S σ := by
  refine za_callV (As := [a1, a2, a3, a4]) d cw hs hci hdp ⟨by rw [hrm.1]; exact hkn.1, by rw [hrm.2]; exact hkn.2⟩ hst hol hos hM (fun v S' σ' hq _ => ?_)
  rw [hrm.1, hrm.2]
  obtain ⟨x, rfl, rfl, hR⟩ := hq
  exact kk x σ' hR
theorem za_cV4v {μ' : zM} {idx b ci : Nat} {fs : List (Option (Option Nat))} {a1 a2 a3 a4 : Value} {R : zSt → Prop} (d : decode (zB μ) pc = .ok (.invokevirtual idx, 3)) (cw : zCV (zY μ).cls idx μ' 4) (hs : S[b]? = some (.inr (.inr (ci, fs)))) (hci : (zcl[ci]?).map (fun q => q.1) = some (zY μ').cls) (hdp : Nat.ble (zDp μ' + 1) (zDp μ) = true) (hrm : zMc μ' = 0 ∧ zMs μ' = 0) (hkn : Nat.ble k (zMc μ) = true ∧ Nat.ble n (zMs μ) = true) (hst : Nat.ble (st.map fun v => v.category).sum 8 = true) (hol : ls.all (zoko S.length) = true) (hos : st.all (zokv S.length) = true) (hM : zV μ' (.ref b :: [a1, a2, a3, a4]) S σ R) (kk : ∀ (t : zSt), R t → zA Z μ sc k n (pc + 3) ls st S t) : zA Z μ sc k n pc ls (a4 :: a3 :: a2 :: a1 :: .ref b :: st) S σ := by
  refine za_callV (As := [a1, a2, a3, a4]) d cw hs hci hdp ⟨by rw [hrm.1]; exact hkn.1, by rw [hrm.2]; exact hkn.2⟩ hst hol hos hM (fun v S' σ' hq _ => ?_)
  rw [hrm.1, hrm.2]
  obtain ⟨rfl, rfl, hR⟩ := hq
  exact kk σ' hR
theorem za_cV4r {μ' : zM} {idx b ci : Nat} {fs : List (Option (Option Nat))} {a1 a2 a3 a4 : Value} {R : zSt → Prop} {r : Nat} (d : decode (zB μ) pc = .ok (.invokevirtual idx, 3)) (cw : zCV (zY μ).cls idx μ' 4) (hs : S[b]? = some (.inr (.inr (ci, fs)))) (hci : (zcl[ci]?).map (fun q => q.1) = some (zY μ').cls) (hdp : Nat.ble (zDp μ' + 1) (zDp μ) = true) (hrm : zMc μ' = 0 ∧ zMs μ' = 0) (hkn : Nat.ble k (zMc μ) = true ∧ Nat.ble n (zMs μ) = true) (hst : Nat.ble (st.map fun v => v.category).sum 8 = true) (hol : ls.all (zoko S.length) = true) (hos : st.all (zokv S.length) = true) (hM : zO μ' (.ref b :: [a1, a2, a3, a4]) S σ r R) (kk : ∀ (t : zSt), R t → zA Z μ sc k n (pc + 3) ls (.ref r :: st) S t) : zA Z μ sc k n pc ls (a4 :: a3 :: a2 :: a1 :: .ref b :: st) S σ := by
  refine za_callV (As := [a1, a2, a3, a4]) d cw hs hci hdp ⟨by rw [hrm.1]; exact hkn.1, by rw [hrm.2]; exact hkn.2⟩ hst hol hos hM (fun v S' σ' hq _ => ?_)
  rw [hrm.1, hrm.2]
  obtain ⟨rfl, rfl, hR⟩ := hq
  exact kk σ' hR
theorem za_cV5i {μ' : zM} {idx b ci : Nat} {fs : List (Option (Option Nat))} {a1 a2 a3 a4 a5 : Value} {R : Int32 → zSt → Prop} (d : decode (zB μ) pc = .ok (.invokevirtual idx, 3)) (cw : zCV (zY μ).cls idx μ' 5) (hs : S[b]? = some (.inr (.inr (ci, fs)))) (hci : (zcl[ci]?).map (fun q => q.1) = some (zY μ').cls) (hdp : Nat.ble (zDp μ' + 1) (zDp μ) = true) (hrm : zMc μ' = 0 ∧ zMs μ' = 0) (hkn : Nat.ble k (zMc μ) = true ∧ Nat.ble n (zMs μ) = true) (hst : Nat.ble (st.map fun v => v.category).sum 8 = true) (hol : ls.all (zoko S.length) = true) (hos : st.all (zokv S.length) = true) (hM : zI μ' (.ref b :: [a1, a2, a3, a4, a5]) S σ R) (kk : ∀ (x : Int32) (t : zSt), R x t → zA Z μ sc k n (pc + 3) ls (.int x :: st) S t) : zA Z μ sc k n pc ls (a5 :: a4 :: a3 :: a2 :: a1 :: .ref b :: st) S σ := by
  refine za_callV (As := [a1, a2, a3, a4, a5]) d cw hs hci hdp ⟨by rw [hrm.1]; exact hkn.1, by rw [hrm.2]; exact hkn.2⟩ hst hol hos hM (fun v S' σ' hq _ => ?_)
  rw [hrm.1, hrm.2]
  obtain ⟨x, rfl, rfl, hR⟩ := hq
  exact kk x σ' hR
theorem za_cV5l {μ' : zM} {idx b ci : Nat} {fs : List (Option (Option Nat))} {a1 a2 a3 a4 a5 : Value} {R : Int64 → zSt → Prop} (d : decode (zB μ) pc = .ok (.invokevirtual idx, 3)) (cw : zCV (zY μ).cls idx μ' 5) (hs : S[b]? = some (.inr (.inr (ci, fs)))) (hci : (zcl[ci]?).map (fun q => q.1) = some (zY μ').cls) (hdp : Nat.ble (zDp μ' + 1) (zDp μ) = true) (hrm : zMc μ' = 0 ∧ zMs μ' = 0) (hkn : Nat.ble k (zMc μ) = true ∧ Nat.ble n (zMs μ) = true) (hst : Nat.ble (st.map fun v => v.category).sum 8 = true) (hol : ls.all (zoko S.length) = true) (hos : st.all (zokv S.length) = true) (hM : zJ μ' (.ref b :: [a1, a2, a3, a4, a5]) S σ R) (kk : ∀ (x : Int64) (t : zSt), R x t → zA Z μ sc k n (pc + 3) ls (.long x :: st) S t) : zA Z μ sc k n pc ls (a5 :: a4 :: a3 :: a2 :: a1 :: .ref b :: st) S σ := by
  refine za_callV (As := [a1, a2, a3, a4, a5]) d cw hs hci hdp ⟨by rw [hrm.1]; exact hkn.1, by rw [hrm.2]; exact hkn.2⟩ hst hol hos hM (fun v S' σ' hq _ => ?_)
  rw [hrm.1, hrm.2]
  obtain ⟨x, rfl, rfl, hR⟩ := hq
  exact kk x σ' hR
theorem za_cV5v {μ' : zM} {idx b ci : Nat} {fs : List (Option (Option Nat))} {a1 a2 a3 a4 a5 : Value} {R : zSt → Prop} (d : decode (zB μ) pc = .ok (.invokevirtual idx, 3)) (cw : zCV (zY μ).cls idx μ' 5) (hs : S[b]? = some (.inr (.inr (ci, fs)))) (hci : (zcl[ci]?).map (fun q => q.1) = some (zY μ').cls) (hdp : Nat.ble (zDp μ' + 1) (zDp μ) = true) (hrm : zMc μ' = 0 ∧ zMs μ' = 0) (hkn : Nat.ble k (zMc μ) = true ∧ Nat.ble n (zMs μ) = true) (hst : Nat.ble (st.map fun v => v.category).sum 8 = true) (hol : ls.all (zoko S.length) = true) (hos : st.all (zokv S.length) = true) (hM : zV μ' (.ref b :: [a1, a2, a3, a4, a5]) S σ R) (kk : ∀ (t : zSt), R t → zA Z μ sc k n (pc + 3) ls st S t) : zA Z μ sc k n pc ls (a5 :: a4 :: a3 :: a2 :: a1 :: .ref b :: st) S σ := by
  refine za_callV (As := [a1, a2, a3, a4, a5]) d cw hs hci hdp ⟨by rw [hrm.1]; exact hkn.1, by rw [hrm.2]; exact hkn.2⟩ hst hol hos hM (fun v S' σ' hq _ => ?_)
  rw [hrm.1, hrm.2]
  obtain ⟨rfl, rfl, hR⟩ := hq
  exact kk σ' hR
theorem za_cV5r {μ' : zM} {idx b ci : Nat} {fs : List (Option (Option Nat))} {a1 a2 a3 a4 a5 : Value} {R : zSt → Prop} {r : Nat} (d : decode (zB μ) pc = .ok (.invokevirtual idx, 3)) (cw : zCV (zY μ).cls idx μ' 5) (hs : S[b]? = some (.inr (.inr (ci, fs)))) (hci : (zcl[ci]?).map (fun q => q.1) = some (zY μ').cls) (hdp : Nat.ble (zDp μ' + 1) (zDp μ) = true) (hrm : zMc μ' = 0 ∧ zMs μ' = 0) (hkn : Nat.ble k (zMc μ) = true ∧ Nat.ble n (zMs μ) = true) (hst : Nat.ble (st.map fun v => v.category).sum 8 = true) (hol : ls.all (zoko S.length) = true) (hos : st.all (zokv S.length) = true) (hM : zO μ' (.ref b :: [a1, a2, a3, a4, a5]) S σ r R) (kk : ∀ (t : zSt), R t → zA Z μ sc k n (pc + 3) ls (.ref r :: st) S t) : zA Z μ sc k n pc ls (a5 :: a4 :: a3 :: a2 :: a1 :: .ref b :: st) S σ := by
  refine za_callV (As := [a1, a2, a3, a4, a5]) d cw hs hci hdp ⟨by rw [hrm.1]; exact hkn.1, by rw [hrm.2]; exact hkn.2⟩ hst hol hos hM (fun v S' σ' hq _ => ?_)
  rw [hrm.1, hrm.2]
  obtain ⟨rfl, rfl, hR⟩ := hq
  exact kk σ' hR
theorem za_cS0i {μ' : zM} {idx : Nat} {R : Int32 → zSt → Prop} (d : decode (zB μ) pc = .ok (.invokestatic idx, 3)) (cw : zCS (zY μ).cls idx μ' 0) (hdp : Nat.ble (zDp μ' + 1) (zDp μ) = true) (hrm : zMc μ' = 0 ∧ zMs μ' = 0) (hkn : Nat.ble k (zMc μ) = true ∧ Nat.ble n (zMs μ) = true) (hst : Nat.ble (st.map fun v => v.category).sum 8 = true) (hol : ls.all (zoko S.length) = true) (hos : st.all (zokv S.length) = true) (hM : zI μ' ([]) S σ R) (kk : ∀ (x : Int32) (t : zSt), R x t → zA Z μ sc k n (pc + 3) ls (.int x :: st) S t) : zA Z μ sc k n pc ls (st) S σ := by
  refine za_callS (As := []) d cw hdp ⟨by rw [hrm.1]; exact hkn.1, by rw [hrm.2]; exact hkn.2⟩ hst hol hos hM (fun v S' σ' hq _ => ?_)
  rw [hrm.1, hrm.2]
  obtain ⟨x, rfl, rfl, hR⟩ := hq
  exact kk x σ' hR
theorem za_cS0l {μ' : zM} {idx : Nat} {R : Int64 → zSt → Prop} (d : decode (zB μ) pc = .ok (.invokestatic idx, 3)) (cw : zCS (zY μ).cls idx μ' 0) (hdp : Nat.ble (zDp μ' + 1) (zDp μ) = true) (hrm : zMc μ' = 0 ∧ zMs μ' = 0) (hkn : Nat.ble k (zMc μ) = true ∧ Nat.ble n (zMs μ) = true) (hst : Nat.ble (st.map fun v => v.category).sum 8 = true) (hol : ls.all (zoko S.length) = true) (hos : st.all (zokv S.length) = true) (hM : zJ μ' ([]) S σ R) (kk : ∀ (x : Int64) (t : zSt), R x t → zA Z μ sc k n (pc + 3) ls (.long x :: st) S t) : zA Z μ sc k n pc ls (st) S σ := by
  refine za_callS (As := []) d cw hdp ⟨by rw [hrm.1]; exact hkn.1, by rw [hrm.2]; exact hkn.2⟩ hst hol hos hM (fun v S' σ' hq _ => ?_)
  rw [hrm.1, hrm.2]
  obtain ⟨x, rfl, rfl, hR⟩ := hq
  exact kk x σ' hR
theorem za_cS0v {μ' : zM} {idx : Nat} {R : zSt → Prop} (d : decode (zB μ) pc = .ok (.invokestatic idx, 3)) (cw : zCS (zY μ).cls idx μ' 0) (hdp : Nat.ble (zDp μ' + 1) (zDp μ) = true) (hrm : zMc μ' = 0 ∧ zMs μ' = 0) (hkn : Nat.ble k (zMc μ) = true ∧ Nat.ble n (zMs μ) = true) (hst : Nat.ble (st.map fun v => v.category).sum 8 = true) (hol : ls.all (zoko S.length) = true) (hos : st.all (zokv S.length) = true) (hM : zV μ' ([]) S σ R) (kk : ∀ (t : zSt), R t → zA Z μ sc k n (pc + 3) ls st S t) : zA Z μ sc k n pc ls (st) S σ := by
  refine za_callS (As := []) d cw hdp ⟨by rw [hrm.1]; exact hkn.1, by rw [hrm.2]; exact hkn.2⟩ hst hol hos hM (fun v S' σ' hq _ => ?_)
  rw [hrm.1, hrm.2]
  obtain ⟨rfl, rfl, hR⟩ := hq
  exact kk σ' hR
theorem za_cS0r {μ' : zM} {idx : Nat} {R : zSt → Prop} {r : Nat} (d : decode (zB μ) pc = .ok (.invokestatic idx, 3)) (cw : zCS (zY μ).cls idx μ' 0) (hdp : Nat.ble (zDp μ' + 1) (zDp μ) = true) (hrm : zMc μ' = 0 ∧ zMs μ' = 0) (hkn : Nat.ble k (zMc μ) = true ∧ Nat.ble n (zMs μ) = true) (hst : Nat.ble (st.map fun v => v.category).sum 8 = true) (hol : ls.all (zoko S.length) = true) (hos : st.all (zokv S.length) = true) (hM : zO μ' ([]) S σ r R) (kk : ∀ (t : zSt), R t → zA Z μ sc k n (pc + 3) ls (.ref r :: st) S t) : zA Z μ sc k n pc ls (st) S σ := by
  refine za_callS (As := []) d cw hdp ⟨by rw [hrm.1]; exact hkn.1, by rw [hrm.2]; exact hkn.2⟩ hst hol hos hM (fun v S' σ' hq _ => ?_)
  rw [hrm.1, hrm.2]
  obtain ⟨rfl, rfl, hR⟩ := hq
  exact kk σ' hR
theorem za_cS1i {μ' : zM} {idx : Nat} {a1 : Value} {R : Int32 → zSt → Prop} (d : decode (zB μ) pc = .ok (.invokestatic idx, 3)) (cw : zCS (zY μ).cls idx μ' 1) (hdp : Nat.ble (zDp μ' + 1) (zDp μ) = true) (hrm : zMc μ' = 0 ∧ zMs μ' = 0) (hkn : Nat.ble k (zMc μ) = true ∧ Nat.ble n (zMs μ) = true) (hst : Nat.ble (st.map fun v => v.category).sum 8 = true) (hol : ls.all (zoko S.length) = true) (hos : st.all (zokv S.length) = true) (hM : zI μ' ([a1]) S σ R) (kk : ∀ (x : Int32) (t : zSt), R x t → zA Z μ sc k n (pc + 3) ls (.int x :: st) S t) : zA Z μ sc k n pc ls (a1 :: st) S σ := by
  refine za_callS (As := [a1]) d cw hdp ⟨by rw [hrm.1]; exact hkn.1, by rw [hrm.2]; exact hkn.2⟩ hst hol hos hM (fun v S' σ' hq _ => ?_)
  rw [hrm.1, hrm.2]
  obtain ⟨x, rfl, rfl, hR⟩ := hq
  exact kk x σ' hR
theorem za_cS1l {μ' : zM} {idx : Nat} {a1 : Value} {R : Int64 → zSt → Prop} (d : decode (zB μ) pc = .ok (.invokestatic idx, 3)) (cw : zCS (zY μ).cls idx μ' 1) (hdp : Nat.ble (zDp μ' + 1) (zDp μ) = true) (hrm : zMc μ' = 0 ∧ zMs μ' = 0) (hkn : Nat.ble k (zMc μ) = true ∧ Nat.ble n (zMs μ) = true) (hst : Nat.ble (st.map fun v => v.category).sum 8 = true) (hol : ls.all (zoko S.length) = true) (hos : st.all (zokv S.length) = true) (hM : zJ μ' ([a1]) S σ R) (kk : ∀ (x : Int64) (t : zSt), R x t → zA Z μ sc k n (pc + 3) ls (.long x :: st) S t) : zA Z μ sc k n pc ls (a1 :: st) S σ := by
  refine za_callS (As := [a1]) d cw hdp ⟨by rw [hrm.1]; exact hkn.1, by rw [hrm.2]; exact hkn.2⟩ hst hol hos hM (fun v S' σ' hq _ => ?_)
  rw [hrm.1, hrm.2]
  obtain ⟨x, rfl, rfl, hR⟩ := hq
  exact kk x σ' hR
theorem za_cS1v {μ' : zM} {idx : Nat} {a1 : Value} {R : zSt → Prop} (d : decode (zB μ) pc = .ok (.invokestatic idx, 3)) (cw : zCS (zY μ).cls idx μ' 1) (hdp : Nat.ble (zDp μ' + 1) (zDp μ) = true) (hrm : zMc μ' = 0 ∧ zMs μ' = 0) (hkn : Nat.ble k (zMc μ) = true ∧ Nat.ble n (zMs μ) = true) (hst : Nat.ble (st.map fun v => v.category).sum 8 = true) (hol : ls.all (zoko S.length) = true) (hos : st.all (zokv S.length) = true) (hM : zV μ' ([a1]) S σ R) (kk : ∀ (t : zSt), R t → zA Z μ sc k n (pc + 3) ls st S t) : zA Z μ sc k n pc ls (a1 :: st) S σ := by
  refine za_callS (As := [a1]) d cw hdp ⟨by rw [hrm.1]; exact hkn.1, by rw [hrm.2]; exact hkn.2⟩ hst hol hos hM (fun v S' σ' hq _ => ?_)
  rw [hrm.1, hrm.2]
  obtain ⟨rfl, rfl, hR⟩ := hq
  exact kk σ' hR
theorem za_cS1r {μ' : zM} {idx : Nat} {a1 : Value} {R : zSt → Prop} {r : Nat} (d : decode (zB μ) pc = .ok (.invokestatic idx, 3)) (cw : zCS (zY μ).cls idx μ' 1) (hdp : Nat.ble (zDp μ' + 1) (zDp μ) = true) (hrm : zMc μ' = 0 ∧ zMs μ' = 0) (hkn : Nat.ble k (zMc μ) = true ∧ Nat.ble n (zMs μ) = true) (hst : Nat.ble (st.map fun v => v.category).sum 8 = true) (hol : ls.all (zoko S.length) = true) (hos : st.all (zokv S.length) = true) (hM : zO μ' ([a1]) S σ r R) (kk : ∀ (t : zSt), R t → zA Z μ sc k n (pc + 3) ls (.ref r :: st) S t) : zA Z μ sc k n pc ls (a1 :: st) S σ := by
  refine za_callS (As := [a1]) d cw hdp ⟨by rw [hrm.1]; exact hkn.1, by rw [hrm.2]; exact hkn.2⟩ hst hol hos hM (fun v S' σ' hq _ => ?_)
  rw [hrm.1, hrm.2]
  obtain ⟨rfl, rfl, hR⟩ := hq
  exact kk σ' hR
theorem za_cS2i {μ' : zM} {idx : Nat} {a1 a2 : Value} {R : Int32 → zSt → Prop} (d : decode (zB μ) pc = .ok (.invokestatic idx, 3)) (cw : zCS (zY μ).cls idx μ' 2) (hdp : Nat.ble (zDp μ' + 1) (zDp μ) = true) (hrm : zMc μ' = 0 ∧ zMs μ' = 0) (hkn : Nat.ble k (zMc μ) = true ∧ Nat.ble n (zMs μ) = true) (hst : Nat.ble (st.map fun v => v.category).sum 8 = true) (hol : ls.all (zoko S.length) = true) (hos : st.all (zokv S.length) = true) (hM : zI μ' ([a1, a2]) S σ R) (kk : ∀ (x : Int32) (t : zSt), R x t → zA Z μ sc k n (pc + 3) ls (.int x :: st) S t) : zA Z μ sc k n pc ls (a2 :: a1 :: st) S σ := by
  refine za_callS (As := [a1, a2]) d cw hdp ⟨by rw [hrm.1]; exact hkn.1, by rw [hrm.2]; exact hkn.2⟩ hst hol hos hM (fun v S' σ' hq _ => ?_)
  rw [hrm.1, hrm.2]
  obtain ⟨x, rfl, rfl, hR⟩ := hq
  exact kk x σ' hR
theorem za_cS2l {μ' : zM} {idx : Nat} {a1 a2 : Value} {R : Int64 → zSt → Prop} (d : decode (zB μ) pc = .ok (.invokestatic idx, 3)) (cw : zCS (zY μ).cls idx μ' 2) (hdp : Nat.ble (zDp μ' + 1) (zDp μ) = true) (hrm : zMc μ' = 0 ∧ zMs μ' = 0) (hkn : Nat.ble k (zMc μ) = true ∧ Nat.ble n (zMs μ) = true) (hst : Nat.ble (st.map fun v => v.category).sum 8 = true) (hol : ls.all (zoko S.length) = true) (hos : st.all (zokv S.length) = true) (hM : zJ μ' ([a1, a2]) S σ R) (kk : ∀ (x : Int64) (t : zSt), R x t → zA Z μ sc k n (pc + 3) ls (.long x :: st) S t) : zA Z μ sc k n pc ls (a2 :: a1 :: st) S σ := by
  refine za_callS (As := [a1, a2]) d cw hdp ⟨by rw [hrm.1]; exact hkn.1, by rw [hrm.2]; exact hkn.2⟩ hst hol hos hM (fun v S' σ' hq _ => ?_)
  rw [hrm.1, hrm.2]
  obtain ⟨x, rfl, rfl, hR⟩ := hq
  exact kk x σ' hR
theorem za_cS2v {μ' : zM} {idx : Nat} {a1 a2 : Value} {R : zSt → Prop} (d : decode (zB μ) pc = .ok (.invokestatic idx, 3)) (cw : zCS (zY μ).cls idx μ' 2) (hdp : Nat.ble (zDp μ' + 1) (zDp μ) = true) (hrm : zMc μ' = 0 ∧ zMs μ' = 0) (hkn : Nat.ble k (zMc μ) = true ∧ Nat.ble n (zMs μ) = true) (hst : Nat.ble (st.map fun v => v.category).sum 8 = true) (hol : ls.all (zoko S.length) = true) (hos : st.all (zokv S.length) = true) (hM : zV μ' ([a1, a2]) S σ R) (kk : ∀ (t : zSt), R t → zA Z μ sc k n (pc + 3) ls st S t) : zA Z μ sc k n pc ls (a2 :: a1 :: st) S σ := by
  refine za_callS (As := [a1, a2]) d cw hdp ⟨by rw [hrm.1]; exact hkn.1, by rw [hrm.2]; exact hkn.2⟩ hst hol hos hM (fun v S' σ' hq _ => ?_)
  rw [hrm.1, hrm.2]
  obtain ⟨rfl, rfl, hR⟩ := hq
  exact kk σ' hR
theorem za_cS2r {μ' : zM} {idx : Nat} {a1 a2 : Value} {R : zSt → Prop} {r : Nat} (d : decode (zB μ) pc = .ok (.invokestatic idx, 3)) (cw : zCS (zY μ).cls idx μ' 2) (hdp : Nat.ble (zDp μ' + 1) (zDp μ) = true) (hrm : zMc μ' = 0 ∧ zMs μ' = 0) (hkn : Nat.ble k (zMc μ) = true ∧ Nat.ble n (zMs μ) = true) (hst : Nat.ble (st.map fun v => v.category).sum 8 = true) (hol : ls.all (zoko S.length) = true) (hos : st.all (zokv S.length) = true) (hM : zO μ' ([a1, a2]) S σ r R) (kk : ∀ (t : zSt), R t → zA Z μ sc k n (pc + 3) ls (.ref r :: st) S t) : zA Z μ sc k n pc ls (a2 :: a1 :: st) S σ := by
  refine za_callS (As := [a1, a2]) d cw hdp ⟨by rw [hrm.1]; exact hkn.1, by rw [hrm.2]; exact hkn.2⟩ hst hol hos hM (fun v S' σ' hq _ => ?_)
  rw [hrm.1, hrm.2]
  obtain ⟨rfl, rfl, hR⟩ := hq
  exact kk σ' hR
theorem za_cS3i {μ' : zM} {idx : Nat} {a1 a2 a3 : Value} {R : Int32 → zSt → Prop} (d : decode (zB μ) pc = .ok (.invokestatic idx, 3)) (cw : zCS (zY μ).cls idx μ' 3) (hdp : Nat.ble (zDp μ' + 1) (zDp μ) = true) (hrm : zMc μ' = 0 ∧ zMs μ' = 0) (hkn : Nat.ble k (zMc μ) = true ∧ Nat.ble n (zMs μ) = true) (hst : Nat.ble (st.map fun v => v.category).sum 8 = true) (hol : ls.all (zoko S.length) = true) (hos : st.all (zokv S.length) = true) (hM : zI μ' ([a1, a2, a3]) S σ R) (kk : ∀ (x : Int32) (t : zSt), R x t → zA Z μ sc k n (pc + 3) ls (.int x :: st) S t) : zA Z μ sc k n pc ls (a3 :: a2 :: a1 :: st) S σ := by
  refine za_callS (As := [a1, a2, a3]) d cw hdp ⟨by rw [hrm.1]; exact hkn.1, by rw [hrm.2]; exact hkn.2⟩ hst hol hos hM (fun v S' σ' hq _ => ?_)
  rw [hrm.1, hrm.2]
  obtain ⟨x, rfl, rfl, hR⟩ := hq
  exact kk x σ' hR
theorem za_cS3l {μ' : zM} {idx : Nat} {a1 a2 a3 : Value} {R : Int64 → zSt → Prop} (d : decode (zB μ) pc = .ok (.invokestatic idx, 3)) (cw : zCS (zY μ).cls idx μ' 3) (hdp : Nat.ble (zDp μ' + 1) (zDp μ) = true) (hrm : zMc μ' = 0 ∧ zMs μ' = 0) (hkn : Nat.ble k (zMc μ) = true ∧ Nat.ble n (zMs μ) = true) (hst : Nat.ble (st.map fun v => v.category).sum 8 = true) (hol : ls.all (zoko S.length) = true) (hos : st.all (zokv S.length) = true) (hM : zJ μ' ([a1, a2, a3]) S σ R) (kk : ∀ (x : Int64) (t : zSt), R x t → zA Z μ sc k n (pc + 3) ls (.long x :: st) S t) : zA Z μ sc k n pc ls (a3 :: a2 :: a1 :: st) S σ := by
  refine za_callS (As := [a1, a2, a3]) d cw hdp ⟨by rw [hrm.1]; exact hkn.1, by rw [hrm.2]; exact hkn.2⟩ hst hol hos hM (fun v S' σ' hq _ => ?_)
  rw [hrm.1, hrm.2]
  obtain ⟨x, rfl, rfl, hR⟩ := hq
  exact kk x σ' hR
theorem za_cS3v {μ' : zM} {idx : Nat} {a1 a2 a3 : Value} {R : zSt → Prop} (d : decode (zB μ) pc = .ok (.invokestatic idx, 3)) (cw : zCS (zY μ).cls idx μ' 3) (hdp : Nat.ble (zDp μ' + 1) (zDp μ) = true) (hrm : zMc μ' = 0 ∧ zMs μ' = 0) (hkn : Nat.ble k (zMc μ) = true ∧ Nat.ble n (zMs μ) = true) (hst : Nat.ble (st.map fun v => v.category).sum 8 = true) (hol : ls.all (zoko S.length) = true) (hos : st.all (zokv S.length) = true) (hM : zV μ' ([a1, a2, a3]) S σ R) (kk : ∀ (t : zSt), R t → zA Z μ sc k n (pc + 3) ls st S t) : zA Z μ sc k n pc ls (a3 :: a2 :: a1 :: st) S σ := by
  refine za_callS (As := [a1, a2, a3]) d cw hdp ⟨by rw [hrm.1]; exact hkn.1, by rw [hrm.2]; exact hkn.2⟩ hst hol hos hM (fun v S' σ' hq _ => ?_)
  rw [hrm.1, hrm.2]
  obtain ⟨rfl, rfl, hR⟩ := hq
  exact kk σ' hR
theorem za_cS3r {μ' : zM} {idx : Nat} {a1 a2 a3 : Value} {R : zSt → Prop} {r : Nat} (d : decode (zB μ) pc = .ok (.invokestatic idx, 3)) (cw : zCS (zY μ).cls idx μ' 3) (hdp : Nat.ble (zDp μ' + 1) (zDp μ) = true) (hrm : zMc μ' = 0 ∧ zMs μ' = 0) (hkn : Nat.ble k (zMc μ) = true ∧ Nat.ble n (zMs μ) = true) (hst : Nat.ble (st.map fun v => v.category).sum 8 = true) (hol : ls.all (zoko S.length) = true) (hos : st.all (zokv S.length) = true) (hM : zO μ' ([a1, a2, a3]) S σ r R) (kk : ∀ (t : zSt), R t → zA Z μ sc k n (pc + 3) ls (.ref r :: st) S t) : zA Z μ sc k n pc ls (a3 :: a2 :: a1 :: st) S σ := by
  refine za_callS (As := [a1, a2, a3]) d cw hdp ⟨by rw [hrm.1]; exact hkn.1, by rw [hrm.2]; exact hkn.2⟩ hst hol hos hM (fun v S' σ' hq _ => ?_)
  rw [hrm.1, hrm.2]
  obtain ⟨rfl, rfl, hR⟩ := hq
  exact kk σ' hR
theorem za_cS4i {μ' : zM} {idx : Nat} {a1 a2 a3 a4 : Value} {R : Int32 → zSt → Prop} (d : decode (zB μ) pc = .ok (.invokestatic idx, 3)) (cw : zCS (zY μ).cls idx μ' 4) (hdp : Nat.ble (zDp μ' + 1) (zDp μ) = true) (hrm : zMc μ' = 0 ∧ zMs μ' = 0) (hkn : Nat.ble k (zMc μ) = true ∧ Nat.ble n (zMs μ) = true) (hst : Nat.ble (st.map fun v => v.category).sum 8 = true) (hol : ls.all (zoko S.length) = true) (hos : st.all (zokv S.length) = true) (hM : zI μ' ([a1, a2, a3, a4]) S σ R) (kk : ∀ (x : Int32) (t : zSt), R x t → zA Z μ sc k n (pc + 3) ls (.int x :: st) S t) : zA Z μ sc k n pc ls (a4 :: a3 :: a2 :: a1 :: st) S σ := by
  refine za_callS (As := [a1, a2, a3, a4]) d cw hdp ⟨by rw [hrm.1]; exact hkn.1, by rw [hrm.2]; exact hkn.2⟩ hst hol hos hM (fun v S' σ' hq _ => ?_)
  rw [hrm.1, hrm.2]
  obtain ⟨x, rfl, rfl, hR⟩ := hq
  exact kk x σ' hR
theorem za_cS4l {μ' : zM} {idx : Nat} {a1 a2 a3 a4 : Value} {R : Int64 → zSt → Prop} (d : decode (zB μ) pc = .ok (.invokestatic idx, 3)) (cw : zCS (zY μ).cls idx μ' 4) (hdp : Nat.ble (zDp μ' + 1) (zDp μ) = true) (hrm : zMc μ' = 0 ∧ zMs μ' = 0) (hkn : Nat.ble k (zMc μ) = true ∧ Nat.ble n (zMs μ) = true) (hst : Nat.ble (st.map fun v => v.category).sum 8 = true) (hol : ls.all (zoko S.length) = true) (hos : st.all (zokv S.length) = true) (hM : zJ μ' ([a1, a2, a3, a4]) S σ R) (kk : ∀ (x : Int64) (t : zSt), R x t → zA Z μ sc k n (pc + 3) ls (.long x :: st) S t) : zA Z μ sc k n pc ls (a4 :: a3 :: a2 :: a1 :: st) S σ := by
  refine za_callS (As := [a1, a2, a3, a4]) d cw hdp ⟨by rw [hrm.1]; exact hkn.1, by rw [hrm.2]; exact hkn.2⟩ hst hol hos hM (fun v S' σ' hq _ => ?_)
  rw [hrm.1, hrm.2]
  obtain ⟨x, rfl, rfl, hR⟩ := hq
  exact kk x σ' hR
theorem za_cS4v {μ' : zM} {idx : Nat} {a1 a2 a3 a4 : Value} {R : zSt → Prop} (d : decode (zB μ) pc = .ok (.invokestatic idx, 3)) (cw : zCS (zY μ).cls idx μ' 4) (hdp : Nat.ble (zDp μ' + 1) (zDp μ) = true) (hrm : zMc μ' = 0 ∧ zMs μ' = 0) (hkn : Nat.ble k (zMc μ) = true ∧ Nat.ble n (zMs μ) = true) (hst : Nat.ble (st.map fun v => v.category).sum 8 = true) (hol : ls.all (zoko S.length) = true) (hos : st.all (zokv S.length) = true) (hM : zV μ' ([a1, a2, a3, a4]) S σ R) (kk : ∀ (t : zSt), R t → zA Z μ sc k n (pc + 3) ls st S t) : zA Z μ sc k n pc ls (a4 :: a3 :: a2 :: a1 :: st) S σ := by
  refine za_callS (As := [a1, a2, a3, a4]) d cw hdp ⟨by rw [hrm.1]; exact hkn.1, by rw [hrm.2]; exact hkn.2⟩ hst hol hos hM (fun v S' σ' hq _ => ?_)
  rw [hrm.1, hrm.2]
  obtain ⟨rfl, rfl, hR⟩ := hq
  exact kk σ' hR
theorem za_cS4r {μ' : zM} {idx : Nat} {a1 a2 a3 a4 : Value} {R : zSt → Prop} {r : Nat} (d : decode (zB μ) pc = .ok (.invokestatic idx, 3)) (cw : zCS (zY μ).cls idx μ' 4) (hdp : Nat.ble (zDp μ' + 1) (zDp μ) = true) (hrm : zMc μ' = 0 ∧ zMs μ' = 0) (hkn : Nat.ble k (zMc μ) = true ∧ Nat.ble n (zMs μ) = true) (hst : Nat.ble (st.map fun v => v.category).sum 8 = true) (hol : ls.all (zoko S.length) = true) (hos : st.all (zokv S.length) = true) (hM : zO μ' ([a1, a2, a3, a4]) S σ r R) (kk : ∀ (t : zSt), R t → zA Z μ sc k n (pc + 3) ls (.ref r :: st) S t) : zA Z μ sc k n pc ls (a4 :: a3 :: a2 :: a1 :: st) S σ := by
  refine za_callS (As := [a1, a2, a3, a4]) d cw hdp ⟨by rw [hrm.1]; exact hkn.1, by rw [hrm.2]; exact hkn.2⟩ hst hol hos hM (fun v S' σ' hq _ => ?_)
  rw [hrm.1, hrm.2]
  obtain ⟨rfl, rfl, hR⟩ := hq
  exact kk σ' hR
theorem za_cS5i {μ' : zM} {idx : Nat} {a1 a2 a3 a4 a5 : Value} {R : Int32 → zSt → Prop} (d : decode (zB μ) pc = .ok (.invokestatic idx, 3)) (cw : zCS (zY μ).cls idx μ' 5) (hdp : Nat.ble (zDp μ' + 1) (zDp μ) = true) (hrm : zMc μ' = 0 ∧ zMs μ' = 0) (hkn : Nat.ble k (zMc μ) = true ∧ Nat.ble n (zMs μ) = true) (hst : Nat.ble (st.map fun v => v.category).sum 8 = true) (hol : ls.all (zoko S.length) = true) (hos : st.all (zokv S.length) = true) (hM : zI μ' ([a1, a2, a3, a4, a5]) S σ R) (kk : ∀ (x : Int32) (t : zSt), R x t → zA Z μ sc k n (pc + 3) ls (.int x :: st) S t) : zA Z μ sc k n pc ls (a5 :: a4 :: a3 :: a2 :: a1 :: st) S σ := by
  refine za_callS (As := [a1, a2, a3, a4, a5]) d cw hdp ⟨by rw [hrm.1]; exact hkn.1, by rw [hrm.2]; exact hkn.2⟩ hst hol hos hM (fun v S' σ' hq _ => ?_)
  rw [hrm.1, hrm.2]
  obtain ⟨x, rfl, rfl, hR⟩ := hq
  exact kk x σ' hR
theorem za_cS5l {μ' : zM} {idx : Nat} {a1 a2 a3 a4 a5 : Value} {R : Int64 → zSt → Prop} (d : decode (zB μ) pc = .ok (.invokestatic idx, 3)) (cw : zCS (zY μ).cls idx μ' 5) (hdp : Nat.ble (zDp μ' + 1) (zDp μ) = true) (hrm : zMc μ' = 0 ∧ zMs μ' = 0) (hkn : Nat.ble k (zMc μ) = true ∧ Nat.ble n (zMs μ) = true) (hst : Nat.ble (st.map fun v => v.category).sum 8 = true) (hol : ls.all (zoko S.length) = true) (hos : st.all (zokv S.length) = true) (hM : zJ μ' ([a1, a2, a3, a4, a5]) S σ R) (kk : ∀ (x : Int64) (t : zSt), R x t → zA Z μ sc k n (pc + 3) ls (.long x :: st) S t) : zA Z μ sc k n pc ls (a5 :: a4 :: a3 :: a2 :: a1 :: st) S σ := by
  refine za_callS (As := [a1, a2, a3, a4, a5]) d cw hdp ⟨by rw [hrm.1]; exact hkn.1, by rw [hrm.2]; exact hkn.2⟩ hst hol hos hM (fun v S' σ' hq _ => ?_)
  rw [hrm.1, hrm.2]
  obtain ⟨x, rfl, rfl, hR⟩ := hq
  exact kk x σ' hR
theorem za_cS5v {μ' : zM} {idx : Nat} {a1 a2 a3 a4 a5 : Value} {R : zSt → Prop} (d : decode (zB μ) pc = .ok (.invokestatic idx, 3)) (cw : zCS (zY μ).cls idx μ' 5) (hdp : Nat.ble (zDp μ' + 1) (zDp μ) = true) (hrm : zMc μ' = 0 ∧ zMs μ' = 0) (hkn : Nat.ble k (zMc μ) = true ∧ Nat.ble n (zMs μ) = true) (hst : Nat.ble (st.map fun v => v.category).sum 8 = true) (hol : ls.all (zoko S.length) = true) (hos : st.all (zokv S.length) = true) (hM : zV μ' ([a1, a2, a3, a4, a5]) S σ R) (kk : ∀ (t : zSt), R t → zA Z μ sc k n (pc + 3) ls st S t) : zA Z μ sc k n pc ls (a5 :: a4 :: a3 :: a2 :: a1 :: st) S σ := by
  refine za_callS (As := [a1, a2, a3, a4, a5]) d cw hdp ⟨by rw [hrm.1]; exact hkn.1, by rw [hrm.2]; exact hkn.2⟩ hst hol hos hM (fun v S' σ' hq _ => ?_)
  rw [hrm.1, hrm.2]
  obtain ⟨rfl, rfl, hR⟩ := hq
  exact kk σ' hR
theorem za_cS5r {μ' : zM} {idx : Nat} {a1 a2 a3 a4 a5 : Value} {R : zSt → Prop} {r : Nat} (d : decode (zB μ) pc = .ok (.invokestatic idx, 3)) (cw : zCS (zY μ).cls idx μ' 5) (hdp : Nat.ble (zDp μ' + 1) (zDp μ) = true) (hrm : zMc μ' = 0 ∧ zMs μ' = 0) (hkn : Nat.ble k (zMc μ) = true ∧ Nat.ble n (zMs μ) = true) (hst : Nat.ble (st.map fun v => v.category).sum 8 = true) (hol : ls.all (zoko S.length) = true) (hos : st.all (zokv S.length) = true) (hM : zO μ' ([a1, a2, a3, a4, a5]) S σ r R) (kk : ∀ (t : zSt), R t → zA Z μ sc k n (pc + 3) ls (.ref r :: st) S t) : zA Z μ sc k n pc ls (a5 :: a4 :: a3 :: a2 :: a1 :: st) S σ := by
  refine za_callS (As := [a1, a2, a3, a4, a5]) d cw hdp ⟨by rw [hrm.1]; exact hkn.1, by rw [hrm.2]; exact hkn.2⟩ hst hol hos hM (fun v S' σ' hq _ => ?_)
  rw [hrm.1, hrm.2]
  obtain ⟨rfl, rfl, hR⟩ := hq
  exact kk σ' hR
theorem za_cSN1i {μ' : zM} {idx : Nat} {a1 : Value} {R : Int32 → zSt → Prop} (d : decode (zB μ) pc = .ok (.invokestatic idx, 3)) (cw : zCSN (zY μ).cls idx μ' 1) (hdp : Nat.ble (zDp μ' + 1) (zDp μ) = true) (hrm : zMc μ' = 0 ∧ zMs μ' = 0) (hkn : Nat.ble k (zMc μ) = true ∧ Nat.ble n (zMs μ) = true) (hst : Nat.ble (st.map fun v => v.category).sum 8 = true) (hol : ls.all (zoko S.length) = true) (hos : st.all (zokv S.length) = true) (hM : zI μ' ([a1]) S σ R) (kk : ∀ (x : Int32) (t : zSt), R x t → zA Z μ sc k n (pc + 3) ls (.int x :: st) S t) : zA Z μ sc k n pc ls (a1 :: st) S σ := by
  refine za_callSN (As := [a1]) d cw hdp ⟨by rw [hrm.1]; exact hkn.1, by rw [hrm.2]; exact hkn.2⟩ hst hol hos hM (fun v S' σ' hq _ => ?_)
  rw [hrm.1, hrm.2]
  obtain ⟨x, rfl, rfl, hR⟩ := hq
  exact kk x σ' hR
theorem za_cSN1l {μ' : zM} {idx : Nat} {a1 : Value} {R : Int64 → zSt → Prop} (d : decode (zB μ) pc = .ok (.invokestatic idx, 3)) (cw : zCSN (zY μ).cls idx μ' 1) (hdp : Nat.ble (zDp μ' + 1) (zDp μ) = true) (hrm : zMc μ' = 0 ∧ zMs μ' = 0) (hkn : Nat.ble k (zMc μ) = true ∧ Nat.ble n (zMs μ) = true) (hst : Nat.ble (st.map fun v => v.category).sum 8 = true) (hol : ls.all (zoko S.length) = true) (hos : st.all (zokv S.length) = true) (hM : zJ μ' ([a1]) S σ R) (kk : ∀ (x : Int64) (t : zSt), R x t → zA Z μ sc k n (pc + 3) ls (.long x :: st) S t) : zA Z μ sc k n pc ls (a1 :: st) S σ := by
  refine za_callSN (As := [a1]) d cw hdp ⟨by rw [hrm.1]; exact hkn.1, by rw [hrm.2]; exact hkn.2⟩ hst hol hos hM (fun v S' σ' hq _ => ?_)
  rw [hrm.1, hrm.2]
  obtain ⟨x, rfl, rfl, hR⟩ := hq
  exact kk x σ' hR
theorem za_cSN1v {μ' : zM} {idx : Nat} {a1 : Value} {R : zSt → Prop} (d : decode (zB μ) pc = .ok (.invokestatic idx, 3)) (cw : zCSN (zY μ).cls idx μ' 1) (hdp : Nat.ble (zDp μ' + 1) (zDp μ) = true) (hrm : zMc μ' = 0 ∧ zMs μ' = 0) (hkn : Nat.ble k (zMc μ) = true ∧ Nat.ble n (zMs μ) = true) (hst : Nat.ble (st.map fun v => v.category).sum 8 = true) (hol : ls.all (zoko S.length) = true) (hos : st.all (zokv S.length) = true) (hM : zV μ' ([a1]) S σ R) (kk : ∀ (t : zSt), R t → zA Z μ sc k n (pc + 3) ls st S t) : zA Z μ sc k n pc ls (a1 :: st) S σ := by
  refine za_callSN (As := [a1]) d cw hdp ⟨by rw [hrm.1]; exact hkn.1, by rw [hrm.2]; exact hkn.2⟩ hst hol hos hM (fun v S' σ' hq _ => ?_)
  rw [hrm.1, hrm.2]
  obtain ⟨rfl, rfl, hR⟩ := hq
  exact kk σ' hR
theorem za_cSN1r {μ' : zM} {idx : Nat} {a1 : Value} {R : zSt → Prop} {r : Nat} (d : decode (zB μ) pc = .ok (.invokestatic idx, 3)) (cw : zCSN (zY μ).cls idx μ' 1) (hdp : Nat.ble (zDp μ' + 1) (zDp μ) = true) (hrm : zMc μ' = 0 ∧ zMs μ' = 0) (hkn : Nat.ble k (zMc μ) = true ∧ Nat.ble n (zMs μ) = true) (hst : Nat.ble (st.map fun v => v.category).sum 8 = true) (hol : ls.all (zoko S.length) = true) (hos : st.all (zokv S.length) = true) (hM : zO μ' ([a1]) S σ r R) (kk : ∀ (t : zSt), R t → zA Z μ sc k n (pc + 3) ls (.ref r :: st) S t) : zA Z μ sc k n pc ls (a1 :: st) S σ := by
  refine za_callSN (As := [a1]) d cw hdp ⟨by rw [hrm.1]; exact hkn.1, by rw [hrm.2]; exact hkn.2⟩ hst hol hos hM (fun v S' σ' hq _ => ?_)
  rw [hrm.1, hrm.2]
  obtain ⟨rfl, rfl, hR⟩ := hq
  exact kk σ' hR
theorem za_cSN2i {μ' : zM} {idx : Nat} {a1 a2 : Value} {R : Int32 → zSt → Prop} (d : decode (zB μ) pc = .ok (.invokestatic idx, 3)) (cw : zCSN (zY μ).cls idx μ' 2) (hdp : Nat.ble (zDp μ' + 1) (zDp μ) = true) (hrm : zMc μ' = 0 ∧ zMs μ' = 0) (hkn : Nat.ble k (zMc μ) = true ∧ Nat.ble n (zMs μ) = true) (hst : Nat.ble (st.map fun v => v.category).sum 8 = true) (hol : ls.all (zoko S.length) = true) (hos : st.all (zokv S.length) = true) (hM : zI μ' ([a1, a2]) S σ R) (kk : ∀ (x : Int32) (t : zSt), R x t → zA Z μ sc k n (pc + 3) ls (.int x :: st) S t) : zA Z μ sc k n pc ls (a2 :: a1 :: st) S σ := by
  refine za_callSN (As := [a1, a2]) d cw hdp ⟨by rw [hrm.1]; exact hkn.1, by rw [hrm.2]; exact hkn.2⟩ hst hol hos hM (fun v S' σ' hq _ => ?_)
  rw [hrm.1, hrm.2]
  obtain ⟨x, rfl, rfl, hR⟩ := hq
  exact kk x σ' hR
theorem za_cSN2l {μ' : zM} {idx : Nat} {a1 a2 : Value} {R : Int64 → zSt → Prop} (d : decode (zB μ) pc = .ok (.invokestatic idx, 3)) (cw : zCSN (zY μ).cls idx μ' 2) (hdp : Nat.ble (zDp μ' + 1) (zDp μ) = true) (hrm : zMc μ' = 0 ∧ zMs μ' = 0) (hkn : Nat.ble k (zMc μ) = true ∧ Nat.ble n (zMs μ) = true) (hst : Nat.ble (st.map fun v => v.category).sum 8 = true) (hol : ls.all (zoko S.length) = true) (hos : st.all (zokv S.length) = true) (hM : zJ μ' ([a1, a2]) S σ R) (kk : ∀ (x : Int64) (t : zSt), R x t → zA Z μ sc k n (pc + 3) ls (.long x :: st) S t) : zA Z μ sc k n pc ls (a2 :: a1 :: st) S σ := by
  refine za_callSN (As := [a1, a2]) d cw hdp ⟨by rw [hrm.1]; exact hkn.1, by rw [hrm.2]; exact hkn.2⟩ hst hol hos hM (fun v S' σ' hq _ => ?_)
  rw [hrm.1, hrm.2]
  obtain ⟨x, rfl, rfl, hR⟩ := hq
  exact kk x σ' hR
theorem za_cSN2v {μ' : zM} {idx : Nat} {a1 a2 : Value} {R : zSt → Prop} (d : decode (zB μ) pc = .ok (.invokestatic idx, 3)) (cw : zCSN (zY μ).cls idx μ' 2) (hdp : Nat.ble (zDp μ' + 1) (zDp μ) = true) (hrm : zMc μ' = 0 ∧ zMs μ' = 0) (hkn : Nat.ble k (zMc μ) = true ∧ Nat.ble n (zMs μ) = true) (hst : Nat.ble (st.map fun v => v.category).sum 8 = true) (hol : ls.all (zoko S.length) = true) (hos : st.all (zokv S.length) = true) (hM : zV μ' ([a1, a2]) S σ R) (kk : ∀ (t : zSt), R t → zA Z μ sc k n (pc + 3) ls st S t) : zA Z μ sc k n pc ls (a2 :: a1 :: st) S σ := by
  refine za_callSN (As := [a1, a2]) d cw hdp ⟨by rw [hrm.1]; exact hkn.1, by rw [hrm.2]; exact hkn.2⟩ hst hol hos hM (fun v S' σ' hq _ => ?_)
  rw [hrm.1, hrm.2]
  obtain ⟨rfl, rfl, hR⟩ := hq
  exact kk σ' hR
theorem za_cSN2r {μ' : zM} {idx : Nat} {a1 a2 : Value} {R : zSt → Prop} {r : Nat} (d : decode (zB μ) pc = .ok (.invokestatic idx, 3)) (cw : zCSN (zY μ).cls idx μ' 2) (hdp : Nat.ble (zDp μ' + 1) (zDp μ) = true) (hrm : zMc μ' = 0 ∧ zMs μ' = 0) (hkn : Nat.ble k (zMc μ) = true ∧ Nat.ble n (zMs μ) = true) (hst : Nat.ble (st.map fun v => v.category).sum 8 = true) (hol : ls.all (zoko S.length) = true) (hos : st.all (zokv S.length) = true) (hM : zO μ' ([a1, a2]) S σ r R) (kk : ∀ (t : zSt), R t → zA Z μ sc k n (pc + 3) ls (.ref r :: st) S t) : zA Z μ sc k n pc ls (a2 :: a1 :: st) S σ := by
  refine za_callSN (As := [a1, a2]) d cw hdp ⟨by rw [hrm.1]; exact hkn.1, by rw [hrm.2]; exact hkn.2⟩ hst hol hos hM (fun v S' σ' hq _ => ?_)
  rw [hrm.1, hrm.2]
  obtain ⟨rfl, rfl, hR⟩ := hq
  exact kk σ' hR
end ZA
/-- the shape of the heap once both objects are made -/
def SH : List zSh := [.inr (.inr (6, [some (some 1), some (some 2), some (some 10), some (some 15), some (some 22), some (some 32)])), .inr (.inl [some 35, some 37, some 39, some 41, some 43, some 45]), .inr (.inr (5, [some (some 3), some (some 4), some (some 5), some (some 6), some (some 7), none, none, none, some (some 8), some (some 9)])), .inl 10, .inl 11, .inl 11, .inl 11, .inl 10, .inl 20, .inl 20, .inr (.inr (2, [some (some 11), some (some 12), some (some 13), some (some 14), none, some (some 2), none])), .inl 10, .inl 10, .inl 10, .inl 10, .inr (.inr (1, [some (some 16), some (some 17), some (some 18), some (some 19), none, some (some 2), some (some 10), some (some 20), some (some 21), none])), .inl 10, .inl 10, .inl 11, .inl 11, .inl 11, .inl 10, .inr (.inr (0, [some (some 23), some (some 24), none, some (some 2), some (some 10), some (some 25), some (some 26), some (some 27), some (some 28), some (some 29), none, some (some 30), some (some 31), none])), .inl 61, .inl 10, .inl 55, .inl 55, .inl 55, .inl 55, .inl 55, .inl 1024, .inl 1024, .inr (.inr (3, [some (some 2), some (some 33), some (some 34), none])), .inl 10, .inl 10, .inr (.inr (4, [some (some 36), none, none])), .inl 16, .inr (.inr (4, [some (some 38), none, none])), .inl 16, .inr (.inr (4, [some (some 40), none, none])), .inl 16, .inr (.inr (4, [some (some 42), none, none])), .inl 16, .inr (.inr (4, [some (some 44), none, none])), .inl 16, .inr (.inr (4, [some (some 46), none, none])), .inl 16, .inr (.inr (7, [some (some 48), some (some 49), some (some 50), none, some (some 51), some (some 52), some (some 53), some (some 54), some (some 55), none, some (some 56), none, some (some 57), some (some 58), none, some (some 59), some (some 60), some (some 61), some (some 62), none, some (some 63), some (some 64), some (some 65), some (some 66), some (some 67), none, none, none])), .inl 6, .inl 6, .inl 96, .inl 10, .inl 10, .inl 10, .inl 10, .inl 10, .inl 1020, .inl 10, .inl 16, .inl 10, .inl 10, .inl 10, .inl 10, .inl 10, .inl 1024, .inl 62464, .inl 61, .inl 10]
end
section
/-! stores by place: the list of locals stays plain -/
section ZA
variable {Z : zZt} {μ : zM} {sc : Option (Nat × (Nat → Int32))} {k n pc : Nat} {ls : List (Option Value)} {st : List Value} {S : List zSh} {σ : zSt}
theorem za_is0n {b0 : Option Value} {x : Int32} (d : decode (zB μ) pc = .ok (.istore_n 0, 1)) (hc : zNl (b0 :: ls) 0 = true) (kk : zA Z μ sc k n (pc + 1) (some (.int x) :: ls) st S σ) : zA Z μ sc k n pc (b0 :: ls) (.int x :: st) S σ := za_istore_n d (by first | (simp; done) | (show (3:Nat) < _; simp; done) | (show (3:Nat) < _; simp; omega)) hc rfl kk
theorem za_is0 {b0 : Option Value} {x : Int32} (d : decode (zB μ) pc = .ok (.istore 0, 2)) (hc : zNl (b0 :: ls) 0 = true) (kk : zA Z μ sc k n (pc + 2) (some (.int x) :: ls) st S σ) : zA Z μ sc k n pc (b0 :: ls) (.int x :: st) S σ := za_istore d (by first | (simp; done) | (show (3:Nat) < _; simp; done) | (show (3:Nat) < _; simp; omega)) hc rfl kk
theorem za_as0n {b0 : Option Value} {x : Nat} (d : decode (zB μ) pc = .ok (.astore_n 0, 1)) (hc : zNl (b0 :: ls) 0 = true) (kk : zA Z μ sc k n (pc + 1) (some (.ref x) :: ls) st S σ) : zA Z μ sc k n pc (b0 :: ls) (.ref x :: st) S σ := za_astore_n d (by first | (simp; done) | (show (3:Nat) < _; simp; done) | (show (3:Nat) < _; simp; omega)) hc rfl kk
theorem za_as0 {b0 : Option Value} {x : Nat} (d : decode (zB μ) pc = .ok (.astore 0, 2)) (hc : zNl (b0 :: ls) 0 = true) (kk : zA Z μ sc k n (pc + 2) (some (.ref x) :: ls) st S σ) : zA Z μ sc k n pc (b0 :: ls) (.ref x :: st) S σ := za_astore d (by first | (simp; done) | (show (3:Nat) < _; simp; done) | (show (3:Nat) < _; simp; omega)) hc rfl kk
theorem za_ii0 {q : Int} {x : Int32} (y : Int32) (d : decode (zB μ) pc = .ok (.iinc 0 q, 3)) (hy : Int32.ofInt q = y) (hc : zNl (some (.int x) :: ls) 0 = true) (kk : zA Z μ sc k n (pc + 3) (some (.int (x + y)) :: ls) st S σ) : zA Z μ sc k n pc (some (.int x) :: ls) st S σ := za_iinc y d hy rfl hc rfl kk
theorem za_is1n {b0 b1 : Option Value} {x : Int32} (d : decode (zB μ) pc = .ok (.istore_n 1, 1)) (hc : zNl (b0 :: b1 :: ls) 1 = true) (kk : zA Z μ sc k n (pc + 1) (b0 :: some (.int x) :: ls) st S σ) : zA Z μ sc k n pc (b0 :: b1 :: ls) (.int x :: st) S σ := za_istore_n d (by first | (simp; done) | (show (3:Nat) < _; simp; done) | (show (3:Nat) < _; simp; omega)) hc rfl kk
theorem za_is1 {b0 b1 : Option Value} {x : Int32} (d : decode (zB μ) pc = .ok (.istore 1, 2)) (hc : zNl (b0 :: b1 :: ls) 1 = true) (kk : zA Z μ sc k n (pc + 2) (b0 :: some (.int x) :: ls) st S σ) : zA Z μ sc k n pc (b0 :: b1 :: ls) (.int x :: st) S σ := za_istore d (by first | (simp; done) | (show (3:Nat) < _; simp; done) | (show (3:Nat) < _; simp; omega)) hc rfl kk
theorem za_as1n {b0 b1 : Option Value} {x : Nat} (d : decode (zB μ) pc = .ok (.astore_n 1, 1)) (hc : zNl (b0 :: b1 :: ls) 1 = true) (kk : zA Z μ sc k n (pc + 1) (b0 :: some (.ref x) :: ls) st S σ) : zA Z μ sc k n pc (b0 :: b1 :: ls) (.ref x :: st) S σ := za_astore_n d (by first | (simp; done) | (show (3:Nat) < _; simp; done) | (show (3:Nat) < _; simp; omega)) hc rfl kk
theorem za_as1 {b0 b1 : Option Value} {x : Nat} (d : decode (zB μ) pc = .ok (.astore 1, 2)) (hc : zNl (b0 :: b1 :: ls) 1 = true) (kk : zA Z μ sc k n (pc + 2) (b0 :: some (.ref x) :: ls) st S σ) : zA Z μ sc k n pc (b0 :: b1 :: ls) (.ref x :: st) S σ := za_astore d (by first | (simp; done) | (show (3:Nat) < _; simp; done) | (show (3:Nat) < _; simp; omega)) hc rfl kk
theorem za_ii1 {q : Int} {b0 : Option Value} {x : Int32} (y : Int32) (d : decode (zB μ) pc = .ok (.iinc 1 q, 3)) (hy : Int32.ofInt q = y) (hc : zNl (b0 :: some (.int x) :: ls) 1 = true) (kk : zA Z μ sc k n (pc + 3) (b0 :: some (.int (x + y)) :: ls) st S σ) : zA Z μ sc k n pc (b0 :: some (.int x) :: ls) st S σ := za_iinc y d hy rfl hc rfl kk
theorem za_is2n {b0 b1 b2 : Option Value} {x : Int32} (d : decode (zB μ) pc = .ok (.istore_n 2, 1)) (hc : zNl (b0 :: b1 :: b2 :: ls) 2 = true) (kk : zA Z μ sc k n (pc + 1) (b0 :: b1 :: some (.int x) :: ls) st S σ) : zA Z μ sc k n pc (b0 :: b1 :: b2 :: ls) (.int x :: st) S σ := za_istore_n d (by first | (simp; done) | (show (3:Nat) < _; simp; done) | (show (3:Nat) < _; simp; omega)) hc rfl kk
theorem za_is2 {b0 b1 b2 : Option Value} {x : Int32} (d : decode (zB μ) pc = .ok (.istore 2, 2)) (hc : zNl (b0 :: b1 :: b2 :: ls) 2 = true) (kk : zA Z μ sc k n (pc + 2) (b0 :: b1 :: some (.int x) :: ls) st S σ) : zA Z μ sc k n pc (b0 :: b1 :: b2 :: ls) (.int x :: st) S σ := za_istore d (by first | (simp; done) | (show (3:Nat) < _; simp; done) | (show (3:Nat) < _; simp; omega)) hc rfl kk
theorem za_as2n {b0 b1 b2 : Option Value} {x : Nat} (d : decode (zB μ) pc = .ok (.astore_n 2, 1)) (hc : zNl (b0 :: b1 :: b2 :: ls) 2 = true) (kk : zA Z μ sc k n (pc + 1) (b0 :: b1 :: some (.ref x) :: ls) st S σ) : zA Z μ sc k n pc (b0 :: b1 :: b2 :: ls) (.ref x :: st) S σ := za_astore_n d (by first | (simp; done) | (show (3:Nat) < _; simp; done) | (show (3:Nat) < _; simp; omega)) hc rfl kk
theorem za_as2 {b0 b1 b2 : Option Value} {x : Nat} (d : decode (zB μ) pc = .ok (.astore 2, 2)) (hc : zNl (b0 :: b1 :: b2 :: ls) 2 = true) (kk : zA Z μ sc k n (pc + 2) (b0 :: b1 :: some (.ref x) :: ls) st S σ) : zA Z μ sc k n pc (b0 :: b1 :: b2 :: ls) (.ref x :: st) S σ := za_astore d (by first | (simp; done) | (show (3:Nat) < _; simp; done) | (show (3:Nat) < _; simp; omega)) hc rfl kk
theorem za_ii2 {q : Int} {b0 b1 : Option Value} {x : Int32} (y : Int32) (d : decode (zB μ) pc = .ok (.iinc 2 q, 3)) (hy : Int32.ofInt q = y) (hc : zNl (b0 :: b1 :: some (.int x) :: ls) 2 = true) (kk : zA Z μ sc k n (pc + 3) (b0 :: b1 :: some (.int (x + y)) :: ls) st S σ) : zA Z μ sc k n pc (b0 :: b1 :: some (.int x) :: ls) st S σ := za_iinc y d hy rfl hc rfl kk
theorem za_is3n {b0 b1 b2 b3 : Option Value} {x : Int32} (d : decode (zB μ) pc = .ok (.istore_n 3, 1)) (hc : zNl (b0 :: b1 :: b2 :: b3 :: ls) 3 = true) (kk : zA Z μ sc k n (pc + 1) (b0 :: b1 :: b2 :: some (.int x) :: ls) st S σ) : zA Z μ sc k n pc (b0 :: b1 :: b2 :: b3 :: ls) (.int x :: st) S σ := za_istore_n d (by first | (simp; done) | (show (3:Nat) < _; simp; done) | (show (3:Nat) < _; simp; omega)) hc rfl kk
theorem za_is3 {b0 b1 b2 b3 : Option Value} {x : Int32} (d : decode (zB μ) pc = .ok (.istore 3, 2)) (hc : zNl (b0 :: b1 :: b2 :: b3 :: ls) 3 = true) (kk : zA Z μ sc k n (pc + 2) (b0 :: b1 :: b2 :: some (.int x) :: ls) st S σ) : zA Z μ sc k n pc (b0 :: b1 :: b2 :: b3 :: ls) (.int x :: st) S σ := za_istore d (by first | (simp; done) | (show (3:Nat) < _; simp; done) | (show (3:Nat) < _; simp; omega)) hc rfl kk
theorem za_as3n {b0 b1 b2 b3 : Option Value} {x : Nat} (d : decode (zB μ) pc = .ok (.astore_n 3, 1)) (hc : zNl (b0 :: b1 :: b2 :: b3 :: ls) 3 = true) (kk : zA Z μ sc k n (pc + 1) (b0 :: b1 :: b2 :: some (.ref x) :: ls) st S σ) : zA Z μ sc k n pc (b0 :: b1 :: b2 :: b3 :: ls) (.ref x :: st) S σ := za_astore_n d (by first | (simp; done) | (show (3:Nat) < _; simp; done) | (show (3:Nat) < _; simp; omega)) hc rfl kk
theorem za_as3 {b0 b1 b2 b3 : Option Value} {x : Nat} (d : decode (zB μ) pc = .ok (.astore 3, 2)) (hc : zNl (b0 :: b1 :: b2 :: b3 :: ls) 3 = true) (kk : zA Z μ sc k n (pc + 2) (b0 :: b1 :: b2 :: some (.ref x) :: ls) st S σ) : zA Z μ sc k n pc (b0 :: b1 :: b2 :: b3 :: ls) (.ref x :: st) S σ := za_astore d (by first | (simp; done) | (show (3:Nat) < _; simp; done) | (show (3:Nat) < _; simp; omega)) hc rfl kk
theorem za_ii3 {q : Int} {b0 b1 b2 : Option Value} {x : Int32} (y : Int32) (d : decode (zB μ) pc = .ok (.iinc 3 q, 3)) (hy : Int32.ofInt q = y) (hc : zNl (b0 :: b1 :: b2 :: some (.int x) :: ls) 3 = true) (kk : zA Z μ sc k n (pc + 3) (b0 :: b1 :: b2 :: some (.int (x + y)) :: ls) st S σ) : zA Z μ sc k n pc (b0 :: b1 :: b2 :: some (.int x) :: ls) st S σ := za_iinc y d hy rfl hc rfl kk
theorem za_is4 {b0 b1 b2 b3 b4 : Option Value} {x : Int32} (d : decode (zB μ) pc = .ok (.istore 4, 2)) (hc : zNl (b0 :: b1 :: b2 :: b3 :: b4 :: ls) 4 = true) (kk : zA Z μ sc k n (pc + 2) (b0 :: b1 :: b2 :: b3 :: some (.int x) :: ls) st S σ) : zA Z μ sc k n pc (b0 :: b1 :: b2 :: b3 :: b4 :: ls) (.int x :: st) S σ := za_istore d (by first | (simp; done) | (show (3:Nat) < _; simp; done) | (show (3:Nat) < _; simp; omega)) hc rfl kk
theorem za_as4 {b0 b1 b2 b3 b4 : Option Value} {x : Nat} (d : decode (zB μ) pc = .ok (.astore 4, 2)) (hc : zNl (b0 :: b1 :: b2 :: b3 :: b4 :: ls) 4 = true) (kk : zA Z μ sc k n (pc + 2) (b0 :: b1 :: b2 :: b3 :: some (.ref x) :: ls) st S σ) : zA Z μ sc k n pc (b0 :: b1 :: b2 :: b3 :: b4 :: ls) (.ref x :: st) S σ := za_astore d (by first | (simp; done) | (show (3:Nat) < _; simp; done) | (show (3:Nat) < _; simp; omega)) hc rfl kk
theorem za_ii4 {q : Int} {b0 b1 b2 b3 : Option Value} {x : Int32} (y : Int32) (d : decode (zB μ) pc = .ok (.iinc 4 q, 3)) (hy : Int32.ofInt q = y) (hc : zNl (b0 :: b1 :: b2 :: b3 :: some (.int x) :: ls) 4 = true) (kk : zA Z μ sc k n (pc + 3) (b0 :: b1 :: b2 :: b3 :: some (.int (x + y)) :: ls) st S σ) : zA Z μ sc k n pc (b0 :: b1 :: b2 :: b3 :: some (.int x) :: ls) st S σ := za_iinc y d hy rfl hc rfl kk
theorem za_is5 {b0 b1 b2 b3 b4 b5 : Option Value} {x : Int32} (d : decode (zB μ) pc = .ok (.istore 5, 2)) (hc : zNl (b0 :: b1 :: b2 :: b3 :: b4 :: b5 :: ls) 5 = true) (kk : zA Z μ sc k n (pc + 2) (b0 :: b1 :: b2 :: b3 :: b4 :: some (.int x) :: ls) st S σ) : zA Z μ sc k n pc (b0 :: b1 :: b2 :: b3 :: b4 :: b5 :: ls) (.int x :: st) S σ := za_istore d (by first | (simp; done) | (show (3:Nat) < _; simp; done) | (show (3:Nat) < _; simp; omega)) hc rfl kk
theorem za_as5 {b0 b1 b2 b3 b4 b5 : Option Value} {x : Nat} (d : decode (zB μ) pc = .ok (.astore 5, 2)) (hc : zNl (b0 :: b1 :: b2 :: b3 :: b4 :: b5 :: ls) 5 = true) (kk : zA Z μ sc k n (pc + 2) (b0 :: b1 :: b2 :: b3 :: b4 :: some (.ref x) :: ls) st S σ) : zA Z μ sc k n pc (b0 :: b1 :: b2 :: b3 :: b4 :: b5 :: ls) (.ref x :: st) S σ := za_astore d (by first | (simp; done) | (show (3:Nat) < _; simp; done) | (show (3:Nat) < _; simp; omega)) hc rfl kk
theorem za_ii5 {q : Int} {b0 b1 b2 b3 b4 : Option Value} {x : Int32} (y : Int32) (d : decode (zB μ) pc = .ok (.iinc 5 q, 3)) (hy : Int32.ofInt q = y) (hc : zNl (b0 :: b1 :: b2 :: b3 :: b4 :: some (.int x) :: ls) 5 = true) (kk : zA Z μ sc k n (pc + 3) (b0 :: b1 :: b2 :: b3 :: b4 :: some (.int (x + y)) :: ls) st S σ) : zA Z μ sc k n pc (b0 :: b1 :: b2 :: b3 :: b4 :: some (.int x) :: ls) st S σ := za_iinc y d hy rfl hc rfl kk
theorem za_is6 {b0 b1 b2 b3 b4 b5 b6 : Option Value} {x : Int32} (d : decode (zB μ) pc = .ok (.istore 6, 2)) (hc : zNl (b0 :: b1 :: b2 :: b3 :: b4 :: b5 :: b6 :: ls) 6 = true) (kk : zA Z μ sc k n (pc + 2) (b0 :: b1 :: b2 :: b3 :: b4 :: b5 :: some (.int x) :: ls) st S σ) : zA Z μ sc k n pc (b0 :: b1 :: b2 :: b3 :: b4 :: b5 :: b6 :: ls) (.int x :: st) S σ := za_istore d (by first | (simp; done) | (show (3:Nat) < _; simp; done) | (show (3:Nat) < _; simp; omega)) hc rfl kk
theorem za_as6 {b0 b1 b2 b3 b4 b5 b6 : Option Value} {x : Nat} (d : decode (zB μ) pc = .ok (.astore 6, 2)) (hc : zNl (b0 :: b1 :: b2 :: b3 :: b4 :: b5 :: b6 :: ls) 6 = true) (kk : zA Z μ sc k n (pc + 2) (b0 :: b1 :: b2 :: b3 :: b4 :: b5 :: some (.ref x) :: ls) st S σ) : zA Z μ sc k n pc (b0 :: b1 :: b2 :: b3 :: b4 :: b5 :: b6 :: ls) (.ref x :: st) S σ := za_astore d (by first | (simp; done) | (show (3:Nat) < _; simp; done) | (show (3:Nat) < _; simp; omega)) hc rfl kk
theorem za_ii6 {q : Int} {b0 b1 b2 b3 b4 b5 : Option Value} {x : Int32} (y : Int32) (d : decode (zB μ) pc = .ok (.iinc 6 q, 3)) (hy : Int32.ofInt q = y) (hc : zNl (b0 :: b1 :: b2 :: b3 :: b4 :: b5 :: some (.int x) :: ls) 6 = true) (kk : zA Z μ sc k n (pc + 3) (b0 :: b1 :: b2 :: b3 :: b4 :: b5 :: some (.int (x + y)) :: ls) st S σ) : zA Z μ sc k n pc (b0 :: b1 :: b2 :: b3 :: b4 :: b5 :: some (.int x) :: ls) st S σ := za_iinc y d hy rfl hc rfl kk
theorem za_is7 {b0 b1 b2 b3 b4 b5 b6 b7 : Option Value} {x : Int32} (d : decode (zB μ) pc = .ok (.istore 7, 2)) (hc : zNl (b0 :: b1 :: b2 :: b3 :: b4 :: b5 :: b6 :: b7 :: ls) 7 = true) (kk : zA Z μ sc k n (pc + 2) (b0 :: b1 :: b2 :: b3 :: b4 :: b5 :: b6 :: some (.int x) :: ls) st S σ) : zA Z μ sc k n pc (b0 :: b1 :: b2 :: b3 :: b4 :: b5 :: b6 :: b7 :: ls) (.int x :: st) S σ := za_istore d (by first | (simp; done) | (show (3:Nat) < _; simp; done) | (show (3:Nat) < _; simp; omega)) hc rfl kk
theorem za_as7 {b0 b1 b2 b3 b4 b5 b6 b7 : Option Value} {x : Nat} (d : decode (zB μ) pc = .ok (.astore 7, 2)) (hc : zNl (b0 :: b1 :: b2 :: b3 :: b4 :: b5 :: b6 :: b7 :: ls) 7 = true) (kk : zA Z μ sc k n (pc + 2) (b0 :: b1 :: b2 :: b3 :: b4 :: b5 :: b6 :: some (.ref x) :: ls) st S σ) : zA Z μ sc k n pc (b0 :: b1 :: b2 :: b3 :: b4 :: b5 :: b6 :: b7 :: ls) (.ref x :: st) S σ := za_astore d (by first | (simp; done) | (show (3:Nat) < _; simp; done) | (show (3:Nat) < _; simp; omega)) hc rfl kk
theorem za_ii7 {q : Int} {b0 b1 b2 b3 b4 b5 b6 : Option Value} {x : Int32} (y : Int32) (d : decode (zB μ) pc = .ok (.iinc 7 q, 3)) (hy : Int32.ofInt q = y) (hc : zNl (b0 :: b1 :: b2 :: b3 :: b4 :: b5 :: b6 :: some (.int x) :: ls) 7 = true) (kk : zA Z μ sc k n (pc + 3) (b0 :: b1 :: b2 :: b3 :: b4 :: b5 :: b6 :: some (.int (x + y)) :: ls) st S σ) : zA Z μ sc k n pc (b0 :: b1 :: b2 :: b3 :: b4 :: b5 :: b6 :: some (.int x) :: ls) st S σ := za_iinc y d hy rfl hc rfl kk
theorem za_is8 {b0 b1 b2 b3 b4 b5 b6 b7 b8 : Option Value} {x : Int32} (d : decode (zB μ) pc = .ok (.istore 8, 2)) (hc : zNl (b0 :: b1 :: b2 :: b3 :: b4 :: b5 :: b6 :: b7 :: b8 :: ls) 8 = true) (kk : zA Z μ sc k n (pc + 2) (b0 :: b1 :: b2 :: b3 :: b4 :: b5 :: b6 :: b7 :: some (.int x) :: ls) st S σ) : zA Z μ sc k n pc (b0 :: b1 :: b2 :: b3 :: b4 :: b5 :: b6 :: b7 :: b8 :: ls) (.int x :: st) S σ := za_istore d (by first | (simp; done) | (show (3:Nat) < _; simp; done) | (show (3:Nat) < _; simp; omega)) hc rfl kk
theorem za_as8 {b0 b1 b2 b3 b4 b5 b6 b7 b8 : Option Value} {x : Nat} (d : decode (zB μ) pc = .ok (.astore 8, 2)) (hc : zNl (b0 :: b1 :: b2 :: b3 :: b4 :: b5 :: b6 :: b7 :: b8 :: ls) 8 = true) (kk : zA Z μ sc k n (pc + 2) (b0 :: b1 :: b2 :: b3 :: b4 :: b5 :: b6 :: b7 :: some (.ref x) :: ls) st S σ) : zA Z μ sc k n pc (b0 :: b1 :: b2 :: b3 :: b4 :: b5 :: b6 :: b7 :: b8 :: ls) (.ref x :: st) S σ := za_astore d (by first | (simp; done) | (show (3:Nat) < _; simp; done) | (show (3:Nat) < _; simp; omega)) hc rfl kk
theorem za_ii8 {q : Int} {b0 b1 b2 b3 b4 b5 b6 b7 : Option Value} {x : Int32} (y : Int32) (d : decode (zB μ) pc = .ok (.iinc 8 q, 3)) (hy : Int32.ofInt q = y) (hc : zNl (b0 :: b1 :: b2 :: b3 :: b4 :: b5 :: b6 :: b7 :: some (.int x) :: ls) 8 = true) (kk : zA Z μ sc k n (pc + 3) (b0 :: b1 :: b2 :: b3 :: b4 :: b5 :: b6 :: b7 :: some (.int (x + y)) :: ls) st S σ) : zA Z μ sc k n pc (b0 :: b1 :: b2 :: b3 :: b4 :: b5 :: b6 :: b7 :: some (.int x) :: ls) st S σ := za_iinc y d hy rfl hc rfl kk
theorem za_is9 {b0 b1 b2 b3 b4 b5 b6 b7 b8 b9 : Option Value} {x : Int32} (d : decode (zB μ) pc = .ok (.istore 9, 2)) (hc : zNl (b0 :: b1 :: b2 :: b3 :: b4 :: b5 :: b6 :: b7 :: b8 :: b9 :: ls) 9 = true) (kk : zA Z μ sc k n (pc + 2) (b0 :: b1 :: b2 :: b3 :: b4 :: b5 :: b6 :: b7 :: b8 :: some (.int x) :: ls) st S σ) : zA Z μ sc k n pc (b0 :: b1 :: b2 :: b3 :: b4 :: b5 :: b6 :: b7 :: b8 :: b9 :: ls) (.int x :: st) S σ := za_istore d (by first | (simp; done) | (show (3:Nat) < _; simp; done) | (show (3:Nat) < _; simp; omega)) hc rfl kk
theorem za_as9 {b0 b1 b2 b3 b4 b5 b6 b7 b8 b9 : Option Value} {x : Nat} (d : decode (zB μ) pc = .ok (.astore 9, 2)) (hc : zNl (b0 :: b1 :: b2 :: b3 :: b4 :: b5 :: b6 :: b7 :: b8 :: b9 :: ls) 9 = true) (kk : zA Z μ sc k n (pc + 2) (b0 :: b1 :: b2 :: b3 :: b4 :: b5 :: b6 :: b7 :: b8 :: some (.ref x) :: ls) st S σ) : zA Z μ sc k n pc (b0 :: b1 :: b2 :: b3 :: b4 :: b5 :: b6 :: b7 :: b8 :: b9 :: ls) (.ref x :: st) S σ := za_astore d (by first | (simp; done) | (show (3:Nat) < _; simp; done) | (show (3:Nat) < _; simp; omega)) hc rfl kk
theorem za_ii9 {q : Int} {b0 b1 b2 b3 b4 b5 b6 b7 b8 : Option Value} {x : Int32} (y : Int32) (d : decode (zB μ) pc = .ok (.iinc 9 q, 3)) (hy : Int32.ofInt q = y) (hc : zNl (b0 :: b1 :: b2 :: b3 :: b4 :: b5 :: b6 :: b7 :: b8 :: some (.int x) :: ls) 9 = true) (kk : zA Z μ sc k n (pc + 3) (b0 :: b1 :: b2 :: b3 :: b4 :: b5 :: b6 :: b7 :: b8 :: some (.int (x + y)) :: ls) st S σ) : zA Z μ sc k n pc (b0 :: b1 :: b2 :: b3 :: b4 :: b5 :: b6 :: b7 :: b8 :: some (.int x) :: ls) st S σ := za_iinc y d hy rfl hc rfl kk
theorem za_is10 {b0 b1 b2 b3 b4 b5 b6 b7 b8 b9 b10 : Option Value} {x : Int32} (d : decode (zB μ) pc = .ok (.istore 10, 2)) (hc : zNl (b0 :: b1 :: b2 :: b3 :: b4 :: b5 :: b6 :: b7 :: b8 :: b9 :: b10 :: ls) 10 = true) (kk : zA Z μ sc k n (pc + 2) (b0 :: b1 :: b2 :: b3 :: b4 :: b5 :: b6 :: b7 :: b8 :: b9 :: some (.int x) :: ls) st S σ) : zA Z μ sc k n pc (b0 :: b1 :: b2 :: b3 :: b4 :: b5 :: b6 :: b7 :: b8 :: b9 :: b10 :: ls) (.int x :: st) S σ := za_istore d (by first | (simp; done) | (show (3:Nat) < _; simp; done) | (show (3:Nat) < _; simp; omega)) hc rfl kk
theorem za_as10 {b0 b1 b2 b3 b4 b5 b6 b7 b8 b9 b10 : Option Value} {x : Nat} (d : decode (zB μ) pc = .ok (.astore 10, 2)) (hc : zNl (b0 :: b1 :: b2 :: b3 :: b4 :: b5 :: b6 :: b7 :: b8 :: b9 :: b10 :: ls) 10 = true) (kk : zA Z μ sc k n (pc + 2) (b0 :: b1 :: b2 :: b3 :: b4 :: b5 :: b6 :: b7 :: b8 :: b9 :: some (.ref x) :: ls) st S σ) : zA Z μ sc k n pc (b0 :: b1 :: b2 :: b3 :: b4 :: b5 :: b6 :: b7 :: b8 :: b9 :: b10 :: ls) (.ref x :: st) S σ := za_astore d (by first | (simp; done) | (show (3:Nat) < _; simp; done) | (show (3:Nat) < _; simp; omega)) hc rfl kk
theorem za_ii10 {q : Int} {b0 b1 b2 b3 b4 b5 b6 b7 b8 b9 : Option Value} {x : Int32} (y : Int32) (d : decode (zB μ) pc = .ok (.iinc 10 q, 3)) (hy : Int32.ofInt q = y) (hc : zNl (b0 :: b1 :: b2 :: b3 :: b4 :: b5 :: b6 :: b7 :: b8 :: b9 :: some (.int x) :: ls) 10 = true) (kk : zA Z μ sc k n (pc + 3) (b0 :: b1 :: b2 :: b3 :: b4 :: b5 :: b6 :: b7 :: b8 :: b9 :: some (.int (x + y)) :: ls) st S σ) : zA Z μ sc k n pc (b0 :: b1 :: b2 :: b3 :: b4 :: b5 :: b6 :: b7 :: b8 :: b9 :: some (.int x) :: ls) st S σ := za_iinc y d hy rfl hc rfl kk
theorem za_is11 {b0 b1 b2 b3 b4 b5 b6 b7 b8 b9 b10 b11 : Option Value} {x : Int32} (d : decode (zB μ) pc = .ok (.istore 11, 2)) (hc : zNl (b0 :: b1 :: b2 :: b3 :: b4 :: b5 :: b6 :: b7 :: b8 :: b9 :: b10 :: b11 :: ls) 11 = true) (kk : zA Z μ sc k n (pc + 2) (b0 :: b1 :: b2 :: b3 :: b4 :: b5 :: b6 :: b7 :: b8 :: b9 :: b10 :: some (.int x) :: ls) st S σ) : zA Z μ sc k n pc (b0 :: b1 :: b2 :: b3 :: b4 :: b5 :: b6 :: b7 :: b8 :: b9 :: b10 :: b11 :: ls) (.int x :: st) S σ := za_istore d (by first | (simp; done) | (show (3:Nat) < _; simp; done) | (show (3:Nat) < _; simp; omega)) hc rfl kk
theorem za_as11 {b0 b1 b2 b3 b4 b5 b6 b7 b8 b9 b10 b11 : Option Value} {x : Nat} (d : decode (zB μ) pc = .ok (.astore 11, 2)) (hc : zNl (b0 :: b1 :: b2 :: b3 :: b4 :: b5 :: b6 :: b7 :: b8 :: b9 :: b10 :: b11 :: ls) 11 = true) (kk : zA Z μ sc k n (pc + 2) (b0 :: b1 :: b2 :: b3 :: b4 :: b5 :: b6 :: b7 :: b8 :: b9 :: b10 :: some (.ref x) :: ls) st S σ) : zA Z μ sc k n pc (b0 :: b1 :: b2 :: b3 :: b4 :: b5 :: b6 :: b7 :: b8 :: b9 :: b10 :: b11 :: ls) (.ref x :: st) S σ := za_astore d (by first | (simp; done) | (show (3:Nat) < _; simp; done) | (show (3:Nat) < _; simp; omega)) hc rfl kk
theorem za_ii11 {q : Int} {b0 b1 b2 b3 b4 b5 b6 b7 b8 b9 b10 : Option Value} {x : Int32} (y : Int32) (d : decode (zB μ) pc = .ok (.iinc 11 q, 3)) (hy : Int32.ofInt q = y) (hc : zNl (b0 :: b1 :: b2 :: b3 :: b4 :: b5 :: b6 :: b7 :: b8 :: b9 :: b10 :: some (.int x) :: ls) 11 = true) (kk : zA Z μ sc k n (pc + 3) (b0 :: b1 :: b2 :: b3 :: b4 :: b5 :: b6 :: b7 :: b8 :: b9 :: b10 :: some (.int (x + y)) :: ls) st S σ) : zA Z μ sc k n pc (b0 :: b1 :: b2 :: b3 :: b4 :: b5 :: b6 :: b7 :: b8 :: b9 :: b10 :: some (.int x) :: ls) st S σ := za_iinc y d hy rfl hc rfl kk
theorem za_is12 {b0 b1 b2 b3 b4 b5 b6 b7 b8 b9 b10 b11 b12 : Option Value} {x : Int32} (d : decode (zB μ) pc = .ok (.istore 12, 2)) (hc : zNl (b0 :: b1 :: b2 :: b3 :: b4 :: b5 :: b6 :: b7 :: b8 :: b9 :: b10 :: b11 :: b12 :: ls) 12 = true) (kk : zA Z μ sc k n (pc + 2) (b0 :: b1 :: b2 :: b3 :: b4 :: b5 :: b6 :: b7 :: b8 :: b9 :: b10 :: b11 :: some (.int x) :: ls) st S σ) : zA Z μ sc k n pc (b0 :: b1 :: b2 :: b3 :: b4 :: b5 :: b6 :: b7 :: b8 :: b9 :: b10 :: b11 :: b12 :: ls) (.int x :: st) S σ := za_istore d (by first | (simp; done) | (show (3:Nat) < _; simp; done) | (show (3:Nat) < _; simp; omega)) hc rfl kk
theorem za_as12 {b0 b1 b2 b3 b4 b5 b6 b7 b8 b9 b10 b11 b12 : Option Value} {x : Nat} (d : decode (zB μ) pc = .ok (.astore 12, 2)) (hc : zNl (b0 :: b1 :: b2 :: b3 :: b4 :: b5 :: b6 :: b7 :: b8 :: b9 :: b10 :: b11 :: b12 :: ls) 12 = true) (kk : zA Z μ sc k n (pc + 2) (b0 :: b1 :: b2 :: b3 :: b4 :: b5 :: b6 :: b7 :: b8 :: b9 :: b10 :: b11 :: some (.ref x) :: ls) st S σ) : zA Z μ sc k n pc (b0 :: b1 :: b2 :: b3 :: b4 :: b5 :: b6 :: b7 :: b8 :: b9 :: b10 :: b11 :: b12 :: ls) (.ref x :: st) S σ := za_astore d (by first | (simp; done) | (show (3:Nat) < _; simp; done) | (show (3:Nat) < _; simp; omega)) hc rfl kk
theorem za_ii12 {q : Int} {b0 b1 b2 b3 b4 b5 b6 b7 b8 b9 b10 b11 : Option Value} {x : Int32} (y : Int32) (d : decode (zB μ) pc = .ok (.iinc 12 q, 3)) (hy : Int32.ofInt q = y) (hc : zNl (b0 :: b1 :: b2 :: b3 :: b4 :: b5 :: b6 :: b7 :: b8 :: b9 :: b10 :: b11 :: some (.int x) :: ls) 12 = true) (kk : zA Z μ sc k n (pc + 3) (b0 :: b1 :: b2 :: b3 :: b4 :: b5 :: b6 :: b7 :: b8 :: b9 :: b10 :: b11 :: some (.int (x + y)) :: ls) st S σ) : zA Z μ sc k n pc (b0 :: b1 :: b2 :: b3 :: b4 :: b5 :: b6 :: b7 :: b8 :: b9 :: b10 :: b11 :: some (.int x) :: ls) st S σ := za_iinc y d hy rfl hc rfl kk
end ZA
theorem zMet_ofF {μ : zM} {as : List Value} {S : List zSh} {σ : zSt} {Q : Option Value → List zSh → zSt → Prop} {ls : List (Option Value)} (hp : plainFor (zY μ) = true) (hlen : Nat.ble (zEs as).length (zL μ) = true) (he : zEn (zL μ) as = ls) (h : zA (zZ μ Q) μ none 0 0 0 ls [] S σ) : zMet μ as S σ Q := by
  intro l D h0 ad cA
  subst he
  have hlen := Nat.le_of_ble_eq_true hlen
  refine va_MetF (cc := zB μ) (maxL := zL μ) (ret := zR μ) hp rfl ?_
  intro p e s m args below meth c s₁ B hml hv
  obtain ⟨rfl, hsz, hH, hN⟩ := hv
  have hts := atoms_spec (ws := zws μ) B.pre
  rw [lg_entry_eq]
  have hl := lv_entry (as.map (zC ad)) (n := zL μ) (by rw [zEs_len]; exact hlen)
  exact h p l e s m _ below meth c D h0 ad cA S.length ad cA s.heap [] _ ⟨B.exec, B.bytes, hml, B.returns, B.notSynchronized, findClass_of_methodNamed B.named, fun w hw => hts w (List.mem_cons_of_mem _ hw), hN, hsz, (name_of_methodNamed B.named B.method).1⟩ (fun _ _ h => by cases h) (fun _ _ => ⟨rfl, rfl⟩) (Nat.le_refl _) hH va_S.rf ⟨hl.1, hl.2.1, by simp [zEn]; omega, fun i v hi => hl.2.2 _ (zEn_args ad _ as i v hi)⟩
theorem zI_ofF {μ : zM} {as : List Value} {S : List zSh} {σ : zSt} {R : Int32 → zSt → Prop} {ls : List (Option Value)} (hp : plainFor (zY μ) = true) (hlen : Nat.ble (zEs as).length (zL μ) = true) (he : zEn (zL μ) as = ls) (h : zA (zZ μ (zQI S R)) μ none 0 0 0 ls [] S σ) : zI μ as S σ R := zMet_ofF hp hlen he h
theorem zV_ofF {μ : zM} {as : List Value} {S : List zSh} {σ : zSt} {R : zSt → Prop} {ls : List (Option Value)} (hp : plainFor (zY μ) = true) (hlen : Nat.ble (zEs as).length (zL μ) = true) (he : zEn (zL μ) as = ls) (h : zA (zZ μ (zQV S R)) μ none 0 0 0 ls [] S σ) : zV μ as S σ R := zMet_ofF hp hlen he h
theorem zA_mono {μ μ' : zM} {Q Q' : Option Value → List zSh → zSt → Prop} {sc : Option (Nat × (Nat → Int32))} {k n pc : Nat} {ls : List (Option Value)} {st : List Value} {S : List zSh} {σ : zSt} (h : zA (zZ μ' Q) μ sc k n pc ls st S σ) (hq : ∀ v S' t, Q v S' t → Q' v S' t) : zA (zZ μ' Q') μ sc k n pc ls st S σ := by
  intro p l e s m args below meth c D h0 ad0 cA0 n0 ad cA H locs lsA hC hX hag hn0 hH hS hl T hT X
  obtain ⟨t, h1, o, h2, h3, ⟨⟨v, S', σ', ad', cA', a1, a2, a3, a4, a5⟩, a6⟩, h4⟩ := h p l e s m args below meth c D h0 ad0 cA0 n0 ad cA H locs lsA hC hX hag hn0 hH hS hl T hT X
  exact ⟨t, h1, o, h2, h3, ⟨⟨v, S', σ', ad', cA', a1, a2, a3, hq _ _ _ a4, a5⟩, a6⟩, h4⟩
end
section
/-! leaves: static helpers -/
def fa_fill {α : Type} (f g : Nat → α) (i : Nat) : Nat → α := fun k => if k < i then f k else g k
theorem fa_fill_0 {α : Type} (f g : Nat → α) : fa_fill f g 0 = g := by funext k; simp [fa_fill]
theorem fa_fill_succ (f g : Nat → Int32) (i : Nat) : upd (fa_fill f g i) i (f i) = fa_fill f g (i + 1) := by
  funext k
  unfold upd fa_fill
  by_cases h : k = i
  · subst h; simp
  · rw [if_neg h]
    by_cases h2 : k < i
    · rw [if_pos h2, if_pos (by omega)]
    · rw [if_neg h2, if_neg (by omega)]
theorem tX6_bit {S : List zSh} {σ : zSt} {a : Int32} : zI mX6_bit [.int a] S σ (fun x t => x = (1 : Int32) <<< (a &&& 31) ∧ t = σ) := by
  refine zI_of (ls := [some (.int a)]) (by decide) rfl rfl ?_
  refine za_iconst (pc := 0) (1) dX6_bit_0 (by decide) ?_
  refine za_iload_n (pc := 1) dX6_bit_1 rfl ?_
  refine za_ishl (pc := 2) dX6_bit_2 ?_
  refine za_ri (pc := 3) dX6_bit_3 rfl rfl rfl ?_
  exact ⟨rfl, rfl⟩
theorem tX6_holds {S : List zSh} {σ : zSt} {s a : Int32} : zI mX6_holds [.int s, .int a] S σ (fun x t => x = (if s &&& ((1 : Int32) <<< (a &&& 31)) = 0 then 0 else 1) ∧ t = σ) := by
  refine zI_of (ls := [some (.int s), some (.int a)]) (by decide) rfl rfl ?_
  refine za_iload_n (pc := 0) dX6_holds_0 rfl ?_
  refine za_iconst (pc := 1) (1) dX6_holds_1 (by decide) ?_
  refine za_iload_n (pc := 2) dX6_holds_2 rfl ?_
  refine za_ishl (pc := 3) dX6_holds_3 ?_
  refine za_iand (pc := 4) dX6_holds_4 ?_
  refine za_if_eq (pc := 5) 12 dX6_holds_5 (by decide) (fun c_5 => ?_) (fun c_5 => ?_)
  · refine za_iconst (pc := 12) (0) dX6_holds_12 (by decide) ?_
    refine za_rz (pc := 13) dX6_holds_13 rfl rfl rfl rfl ?_
    exact ⟨by simp [*], rfl⟩
  · refine za_iconst (pc := 8) (1) dX6_holds_8 (by decide) ?_
    refine za_goto (pc := 9) 13 dX6_holds_9 (by decide) ?_
    refine za_rz (pc := 13) dX6_holds_13 rfl rfl rfl rfl ?_
    exact ⟨by simp [*], rfl⟩
theorem tJ9_max_7cf53 {S : List zSh} {σ : zSt} {a b : Int32} : zI mJ9_max_7cf53 [.int a, .int b] S σ (fun x t => x = (if a < b then b else a) ∧ t = σ) := by
  refine zI_ofF (ls := [some (.int a), some (.int b)]) (by decide +kernel) rfl rfl ?_
  refine za_iload_n (pc := 0) dJ9_max_7cf53_0 rfl ?_
  refine za_iload_n (pc := 1) dJ9_max_7cf53_1 rfl ?_
  refine za_icmp_lt (pc := 2) 9 dJ9_max_7cf53_2 (by decide) (fun c_2 => ?_) (fun c_2 => ?_)
  · refine za_iload_n (pc := 9) dJ9_max_7cf53_9 rfl ?_
    refine za_ri (pc := 10) dJ9_max_7cf53_10 rfl rfl rfl ?_
    exact ⟨by simp [*], rfl⟩
  · refine za_iload_n (pc := 5) dJ9_max_7cf53_5 rfl ?_
    refine za_goto (pc := 6) 10 dJ9_max_7cf53_6 (by decide) ?_
    refine za_ri (pc := 10) dJ9_max_7cf53_10 rfl rfl rfl ?_
    exact ⟨by simp [*], rfl⟩
theorem tJ9_min_7cf53 {S : List zSh} {σ : zSt} {a b : Int32} : zI mJ9_min_7cf53 [.int a, .int b] S σ (fun x t => x = (if b < a then b else a) ∧ t = σ) := by
  refine zI_ofF (ls := [some (.int a), some (.int b)]) (by decide +kernel) rfl rfl ?_
  refine za_iload_n (pc := 0) dJ9_min_7cf53_0 rfl ?_
  refine za_iload_n (pc := 1) dJ9_min_7cf53_1 rfl ?_
  refine za_icmp_gt (pc := 2) 9 dJ9_min_7cf53_2 (by decide) (fun c_2 => ?_) (fun c_2 => ?_)
  · refine za_iload_n (pc := 9) dJ9_min_7cf53_9 rfl ?_
    refine za_ri (pc := 10) dJ9_min_7cf53_10 rfl rfl rfl ?_
    exact ⟨by simp [*], rfl⟩
  · refine za_iload_n (pc := 5) dJ9_min_7cf53_5 rfl ?_
    refine za_goto (pc := 6) 10 dJ9_min_7cf53_6 (by decide) ?_
    refine za_ri (pc := 10) dJ9_min_7cf53_10 rfl rfl rfl ?_
    exact ⟨by simp [*], rfl⟩
def zus (x y : Int32) : Int32 := (x.toUInt32 >>> (y.toUInt32 &&& Int32.toUInt32 31)).toInt32
def zb1 (i : Int32) : Int32 := i - (zus i 1 &&& 1431655765)
def zb2 (i : Int32) : Int32 := (i &&& 858993459) + (zus i 2 &&& 858993459)
def zb3 (i : Int32) : Int32 := (i + zus i 4) &&& 252645135
def zb4 (i : Int32) : Int32 := i + zus i 8
def zb5 (i : Int32) : Int32 := i + zus i 16
/-- what Integer.bitCount does -/
def zbc (i : Int32) : Int32 := zb5 (zb4 (zb3 (zb2 (zb1 i)))) &&& 63
theorem tJ6_bitCount_0f7a4 {S : List zSh} {σ : zSt} {a : Int32} : zI mJ6_bitCount_0f7a4 [.int a] S σ (fun x t => x = zbc a ∧ t = σ) := by
  refine zI_ofF (ls := [some (.int a)]) (by decide +kernel) rfl rfl ?_
  refine za_iload_n (pc := 0) dJ6_bitCount_0f7a4_0 rfl ?_
  refine za_iload_n (pc := 1) dJ6_bitCount_0f7a4_1 rfl ?_
  refine za_iconst (pc := 2) (1) dJ6_bitCount_0f7a4_2 (by decide) ?_
  refine za_iushr (pc := 3) dJ6_bitCount_0f7a4_3 ?_
  refine za_ldc_w (pc := 4) (1431655765) dJ6_bitCount_0f7a4_4 k_J6_265 ?_
  refine za_iand (pc := 7) dJ6_bitCount_0f7a4_7 ?_
  refine za_isub (pc := 8) dJ6_bitCount_0f7a4_8 ?_
  refine za_is0n (pc := 9) dJ6_bitCount_0f7a4_9 rfl ?_
  refine za_iload_n (pc := 10) dJ6_bitCount_0f7a4_10 rfl ?_
  refine za_ldc_w (pc := 11) (858993459) dJ6_bitCount_0f7a4_11 k_J6_266 ?_
  refine za_iand (pc := 14) dJ6_bitCount_0f7a4_14 ?_
  refine za_iload_n (pc := 15) dJ6_bitCount_0f7a4_15 rfl ?_
  refine za_iconst (pc := 16) (2) dJ6_bitCount_0f7a4_16 (by decide) ?_
  refine za_iushr (pc := 17) dJ6_bitCount_0f7a4_17 ?_
  refine za_ldc_w (pc := 18) (858993459) dJ6_bitCount_0f7a4_18 k_J6_266 ?_
  refine za_iand (pc := 21) dJ6_bitCount_0f7a4_21 ?_
  refine za_iadd (pc := 22) dJ6_bitCount_0f7a4_22 ?_
  refine za_is0n (pc := 23) dJ6_bitCount_0f7a4_23 rfl ?_
  refine za_iload_n (pc := 24) dJ6_bitCount_0f7a4_24 rfl ?_
  refine za_iload_n (pc := 25) dJ6_bitCount_0f7a4_25 rfl ?_
  refine za_iconst (pc := 26) (4) dJ6_bitCount_0f7a4_26 (by decide) ?_
  refine za_iushr (pc := 27) dJ6_bitCount_0f7a4_27 ?_
  refine za_iadd (pc := 28) dJ6_bitCount_0f7a4_28 ?_
  refine za_ldc_w (pc := 29) (252645135) dJ6_bitCount_0f7a4_29 k_J6_267 ?_
  refine za_iand (pc := 32) dJ6_bitCount_0f7a4_32 ?_
  refine za_is0n (pc := 33) dJ6_bitCount_0f7a4_33 rfl ?_
  refine za_iload_n (pc := 34) dJ6_bitCount_0f7a4_34 rfl ?_
  refine za_iload_n (pc := 35) dJ6_bitCount_0f7a4_35 rfl ?_
  refine za_bipush (pc := 36) (8) dJ6_bitCount_0f7a4_36 (by decide) ?_
  refine za_iushr (pc := 38) dJ6_bitCount_0f7a4_38 ?_
  refine za_iadd (pc := 39) dJ6_bitCount_0f7a4_39 ?_
  refine za_is0n (pc := 40) dJ6_bitCount_0f7a4_40 rfl ?_
  refine za_iload_n (pc := 41) dJ6_bitCount_0f7a4_41 rfl ?_
  refine za_iload_n (pc := 42) dJ6_bitCount_0f7a4_42 rfl ?_
  refine za_bipush (pc := 43) (16) dJ6_bitCount_0f7a4_43 (by decide) ?_
  refine za_iushr (pc := 45) dJ6_bitCount_0f7a4_45 ?_
  refine za_iadd (pc := 46) dJ6_bitCount_0f7a4_46 ?_
  refine za_is0n (pc := 47) dJ6_bitCount_0f7a4_47 rfl ?_
  refine za_iload_n (pc := 48) dJ6_bitCount_0f7a4_48 rfl ?_
  refine za_bipush (pc := 49) (63) dJ6_bitCount_0f7a4_49 (by decide) ?_
  refine za_iand (pc := 51) dJ6_bitCount_0f7a4_51 ?_
  refine za_ri (pc := 52) dJ6_bitCount_0f7a4_52 rfl rfl rfl ?_
  exact ⟨rfl, rfl⟩
/-- Arrays.fill: the row is v up to its length, what lies beyond stays -/
theorem tJ7_fill_53178 {S : List zSh} {σ : zSt} {i N : Nat} {v : Int32} (hs : S[i]? = some (.inl N)) (hN : N < 100000) : zV mJ7_fill_53178 [.ref i, .int v] S σ (fun t => t = zrow σ i (fa_fill (fun _ => v) (σ i) N)) := by
  refine zV_ofF (ls := [some (.ref i), some (.int v), none, none]) (by decide +kernel) rfl rfl ?_
  refine za_iconst (pc := 0) (0) dJ7_fill_53178_0 (by decide) ?_
  refine za_is2n (pc := 1) dJ7_fill_53178_1 rfl ?_
  refine za_aload_n (pc := 2) dJ7_fill_53178_2 rfl ?_
  refine za_alen (pc := 3) dJ7_fill_53178_3 hs ?_
  refine za_is3n (pc := 4) dJ7_fill_53178_4 rfl ?_
  have key : ∀ (m j : Nat) (σ1 : zSt), j + m = N → σ1 = zrow σ i (fa_fill (fun _ => v) (σ i) j) → zA (zZ mJ7_fill_53178 (zQV S (fun t => t = zrow σ i (fa_fill (fun _ => v) (σ i) N)))) mJ7_fill_53178 none 0 0 5 [some (.ref i), some (.int v), some (.int (nI j)), some (.int (nI N))] [] S σ1 := by
    intro m
    induction m with
    | zero =>
      intro j σ1 hj e
      refine za_iload_n (pc := 5) dJ7_fill_53178_5 rfl ?_
      refine za_iload_n (pc := 6) dJ7_fill_53178_6 rfl ?_
      refine za_icmp_ge (pc := 7) 20 dJ7_fill_53178_7 (by decide) (fun c => ?_) (fun c => ?_)
      · refine za_rv (pc := 20) dJ7_fill_53178_20 rfl rfl rfl ?_
        rw [e, show j = N by omega]
      · exact absurd (nI_le (show N ≤ j by omega) (by omega)) c
    | succ m ih =>
      intro j σ1 hj e
      refine za_iload_n (pc := 5) dJ7_fill_53178_5 rfl ?_
      refine za_iload_n (pc := 6) dJ7_fill_53178_6 rfl ?_
      refine za_icmp_ge (pc := 7) 20 dJ7_fill_53178_7 (by decide) (fun c => ?_) (fun c => ?_)
      · exact absurd c (nI_ge (show j < N by omega) (by omega))
      · refine za_aload_n (pc := 10) dJ7_fill_53178_10 rfl ?_
        refine za_iload_n (pc := 11) dJ7_fill_53178_11 rfl ?_
        refine za_iload_n (pc := 12) dJ7_fill_53178_12 rfl ?_
        refine za_iast (pc := 13) dJ7_fill_53178_13 hs (vp_in_nI (show j < N by omega) (by omega)) ?_
        refine za_ii2 (pc := 14) (1) dJ7_fill_53178_14 (by decide) rfl ?_
        refine za_goto (pc := 17) 5 dJ7_fill_53178_17 (by decide) ?_
        rw [nI_1]
        refine ih (j + 1) _ (by omega) ?_
        rw [e, nI_clamp (by omega), zup, zrow_s, zrow_zrow, fa_fill_succ (fun _ => v)]
  exact key N 0 σ (by omega) (by rw [fa_fill_0, zrow_id])
end
section
/-! masks: an int whose bit i (below 16) says p i -/
def bt (x : Int32) (i : Nat) : Bool := x.toBitVec.getLsbD i
theorem b_ext {x y : Int32} (h : ∀ i, i < 32 → bt x i = bt y i) : x = y := Int32.toBitVec_inj.mp (BitVec.eq_of_getLsbD_eq (fun i hi => h i hi))
theorem b_or (x y : Int32) (i : Nat) : bt (x ||| y) i = (bt x i || bt y i) := by unfold bt; rw [Int32.toBitVec_or, BitVec.getLsbD_or]
theorem b_and (x y : Int32) (i : Nat) : bt (x &&& y) i = (bt x i && bt y i) := by unfold bt; rw [Int32.toBitVec_and, BitVec.getLsbD_and]
theorem b_xor (x y : Int32) (i : Nat) : bt (x ^^^ y) i = (bt x i ^^ bt y i) := by unfold bt; rw [Int32.toBitVec_xor, BitVec.getLsbD_xor]
theorem b_nI (m i : Nat) : bt (nI m) i = (decide (i < 32) && m.testBit i) := by
  show (BitVec.ofNat 32 m).getLsbD i = _
  rw [BitVec.getLsbD_ofNat]
theorem b_m1 {i : Nat} (h : i < 32) : bt (-1) i = true := by
  have : ∀ i, i < 32 → bt (-1) i = true := by decide
  exact this i h
def mkm (p : Nat → Bool) : Nat → Nat
  | 0 => 0
  | k + 1 => mkm p k ||| (if p k then 2 ^ k else 0)
theorem mkm_lt (p : Nat → Bool) : ∀ k, mkm p k < 2 ^ k
  | 0 => by simp [mkm]
  | k + 1 => by
    have h1 : mkm p k < 2 ^ (k + 1) := Nat.lt_of_lt_of_le (mkm_lt p k) (Nat.pow_le_pow_right (by decide) (Nat.le_succ k))
    have h2 : (if p k then 2 ^ k else 0) < 2 ^ (k + 1) := by
      split
      · exact Nat.pow_lt_pow_right (by decide) (Nat.lt_succ_self k)
      · exact Nat.pow_pos (by decide)
    exact Nat.or_lt_two_pow h1 h2
theorem mkm_bit (p : Nat → Bool) : ∀ k i, (mkm p k).testBit i = (decide (i < k) && p i)
  | 0, i => by simp [mkm]
  | k + 1, i => by
    unfold mkm
    rw [Nat.testBit_or, mkm_bit p k i]
    by_cases hi : i = k
    · subst hi
      by_cases hp : p i = true
      · simp [hp, Nat.testBit_two_pow]
      · simp [hp]
    · have e : (if p k then 2 ^ k else 0 : Nat).testBit i = false := by
        split
        · rw [Nat.testBit_two_pow]; simp; omega
        · simp
      rw [e, Bool.or_false]
      congr 1
      simp only [decide_eq_decide]
      omega
theorem mkm_cong {p q : Nat → Bool} : ∀ {k}, (∀ i, i < k → p i = q i) → mkm p k = mkm q k
  | 0, _ => rfl
  | k + 1, h => by unfold mkm; rw [mkm_cong (fun i hi => h i (by omega)), h k (by omega)]
def zmask (p : Nat → Bool) : Int32 := nI (mkm p 16)
theorem zm_bt (p : Nat → Bool) (i : Nat) : bt (zmask p) i = (decide (i < 16) && p i) := by
  unfold zmask
  rw [b_nI, mkm_bit]
  by_cases h : i < 16
  · simp [h, show i < 32 by omega]
  · simp [h]
theorem zm_cong {p q : Nat → Bool} (h : ∀ i, i < 16 → p i = q i) : zmask p = zmask q := by unfold zmask; rw [mkm_cong h]
theorem zm_eq {p q : Nat → Bool} : zmask p = zmask q ↔ ∀ i, i < 16 → p i = q i := by
  constructor
  · intro h i hi
    have := congrArg (fun x => bt x i) h
    simpa [zm_bt, hi] using this
  · exact zm_cong
theorem zm_and (p q : Nat → Bool) : zmask p &&& zmask q = zmask (fun i => p i && q i) := by
  apply b_ext
  intro i _
  rw [b_and, zm_bt, zm_bt, zm_bt]
  by_cases h : i < 16 <;> simp [h]
theorem zm_or (p q : Nat → Bool) : zmask p ||| zmask q = zmask (fun i => p i || q i) := by
  apply b_ext
  intro i _
  rw [b_or, zm_bt, zm_bt, zm_bt]
  by_cases h : i < 16 <;> simp [h]
theorem zm_not (p q : Nat → Bool) : zmask p &&& (zmask q ^^^ (-1)) = zmask (fun i => p i && !q i) := by
  apply b_ext
  intro i hi
  rw [b_and, b_xor, b_m1 hi, zm_bt, zm_bt, zm_bt]
  by_cases h : i < 16 <;> simp [h]
theorem zm_0 : zmask (fun _ => false) = 0 := by decide
theorem zm_z {p : Nat → Bool} : zmask p = 0 ↔ ∀ i, i < 16 → p i = false := by
  rw [← zm_0, zm_eq]
theorem zm_1 {a : Nat} (h : a < 16) : (1 : Int32) <<< (nI a &&& 31) = zmask (fun i => decide (i = a)) := by
  have e : ∀ a, a < 16 → (1 : Int32) <<< (nI a &&& 31) = zmask (fun i => decide (i = a)) := by decide +kernel
  exact e a h
theorem zm_h {p : Nat → Bool} {a : Nat} (h : a < 16) : (zmask p &&& ((1 : Int32) <<< (nI a &&& 31)) = 0) ↔ p a = false := by
  rw [zm_1 h, zm_and, zm_z]
  constructor
  · intro hq
    have := hq a h
    simpa using this
  · intro hp i _
    by_cases e : i = a
    · subst e; simp [hp]
    · simp [e]
theorem zm_sr {p : Nat → Bool} {a : Nat} (h : a < 16) : (zmask p >>> (nI a &&& 31)) &&& 1 = if p a then 1 else 0 := by
  have hs : ∀ a, a < 16 → ((nI a &&& 31).toBitVec.smod 32).toNat = a := by decide +kernel
  have hl : mkm p 16 < 2 ^ 31 := Nat.lt_of_lt_of_le (mkm_lt p 16) (by decide)
  unfold zmask
  rw [pk_shrN hl (nI a &&& 31) a (hs a h)]
  have e1 : (nI (mkm p 16 / 2 ^ a) &&& 1) = nI (mkm p 16 / 2 ^ a % 2) := by
    rw [pk_andN (Nat.lt_of_le_of_lt (Nat.div_le_self _ _) (Nat.lt_of_lt_of_le (mkm_lt p 16) (by decide))) 1 (by decide)]
  rw [e1]
  have e2 := mkm_bit p 16 a
  rw [Nat.testBit_eq_decide_div_mod_eq] at e2
  simp only [h, decide_true, Bool.true_and] at e2
  by_cases hp : p a = true
  · rw [hp] at e2 ⊢
    have : mkm p 16 / 2 ^ a % 2 = 1 := by simpa using e2
    rw [this]
    rfl
  · have hp : p a = false := by simpa using hp
    rw [hp] at e2 ⊢
    have : mkm p 16 / 2 ^ a % 2 = 0 := by
      have : ¬ mkm p 16 / 2 ^ a % 2 = 1 := by simpa using e2
      omega
    rw [this]
    rfl
theorem zm_s1 {p : Nat → Bool} {a : Nat} (h : a < 16) : ((zmask p >>> (nI a &&& 31)) &&& 1 = 1) ↔ p a = true := by
  rw [zm_sr h]
  cases p a <;> simp <;> decide
theorem zm_all {n : Nat} (h : n < 16) : (1 : Int32) <<< (nI n &&& 31) - 1 = zmask (fun i => decide (i < n)) := by
  have e : ∀ a, a < 16 → (1 : Int32) <<< (nI a &&& 31) - 1 = zmask (fun i => decide (i < a)) := by decide +kernel
  exact e n h
/-- how many below k -/
def cnt (p : Nat → Bool) : Nat → Nat
  | 0 => 0
  | k + 1 => cnt p k + (if p k then 1 else 0)
theorem cnt_le (p : Nat → Bool) : ∀ k, cnt p k ≤ k
  | 0 => Nat.le_refl 0
  | k + 1 => by
    have := cnt_le p k
    unfold cnt
    split <;> omega
theorem cnt_cong {p q : Nat → Bool} : ∀ {k}, (∀ i, i < k → p i = q i) → cnt p k = cnt q k
  | 0, _ => rfl
  | k + 1, h => by unfold cnt; rw [cnt_cong (fun i hi => h i (by omega)), h k (by omega)]
theorem zm_bc {p : Nat → Bool} (h : ∀ i, 10 ≤ i → p i = false) : zbc (zmask p) = nI (cnt p 10) := by
  have e : ∀ m, m < 1024 → zbc (nI m) = nI (cnt (fun i => m.testBit i) 10) := by decide +kernel
  have e2 : mkm p 16 = mkm p 10 := by
    apply Nat.eq_of_testBit_eq
    intro i
    rw [mkm_bit, mkm_bit]
    by_cases hi : i < 10
    · simp [hi, show i < 16 by omega]
    · simp [hi, h i (by omega)]
  unfold zmask
  rw [e2, e _ (mkm_lt p 10)]
  congr 1
  apply cnt_cong
  intro i hi
  rw [mkm_bit]
  simp [hi]
theorem zm_nI (p : Nat → Bool) : ∃ m, m < 65536 ∧ zmask p = nI m := ⟨mkm p 16, mkm_lt p 16, rfl⟩
theorem zm_ltI {p q : Nat → Bool} : zmask p < zmask q ↔ mkm p 16 < mkm q 16 := nI_ltI (Nat.lt_of_lt_of_le (mkm_lt p 16) (by decide)) (Nat.lt_of_lt_of_le (mkm_lt q 16) (by decide))
/-- of two different sets the one whose greatest differing member is the other's is less -/
theorem mkm_ltI {p q : Nat → Bool} : ∀ {k : Nat}, mkm p k < mkm q k ↔ ∃ i, i < k ∧ p i = false ∧ q i = true ∧ ∀ j, i < j → j < k → p j = q j
  | 0 => by simp [mkm]
  | k + 1 => by
    have ih := mkm_ltI (p := p) (q := q) (k := k)
    have hp := mkm_lt p k
    have hq := mkm_lt q k
    have e : ∀ r : Nat → Bool, mkm r (k + 1) = mkm r k + (if r k then 2 ^ k else 0) := by
      intro r
      show mkm r k ||| (if r k then 2 ^ k else 0) = _
      split
      · have h2 := Nat.two_pow_add_eq_or_of_lt (mkm_lt r k) 1
        rw [Nat.mul_one] at h2
        rw [Nat.or_comm, ← h2, Nat.add_comm]
      · simp
    rw [e, e]
    cases hpk : p k <;> cases hqk : q k
    · simp only [Bool.false_eq_true, if_false, Nat.add_zero]
      rw [ih]
      constructor
      · rintro ⟨i, h1, h2, h3, h4⟩
        refine ⟨i, by omega, h2, h3, fun j hj hk => ?_⟩
        rcases Nat.lt_or_ge j k with h | h
        · exact h4 j hj h
        · rw [show j = k by omega, hpk, hqk]
      · rintro ⟨i, h1, h2, h3, h4⟩
        have : i ≠ k := fun e => by rw [e, hqk] at h3; cases h3
        exact ⟨i, by omega, h2, h3, fun j hj hk => h4 j hj (by omega)⟩
    · simp only [Bool.false_eq_true, if_false, if_true, Nat.add_zero]
      constructor
      · intro _
        exact ⟨k, by omega, hpk, hqk, fun j h1 h2 => absurd h2 (by omega)⟩
      · intro _
        omega
    · simp only [Bool.false_eq_true, if_false, if_true, Nat.add_zero]
      constructor
      · intro h
        omega
      · rintro ⟨i, h1, h2, h3, h4⟩
        exfalso
        rcases Nat.lt_or_ge i k with h | h
        · have := h4 k h (by omega)
          rw [hpk, hqk] at this
          cases this
        · have : i = k := by omega
          rw [this, hpk] at h2
          cases h2
    · simp only [if_true, Nat.add_lt_add_iff_right]
      rw [ih]
      constructor
      · rintro ⟨i, h1, h2, h3, h4⟩
        refine ⟨i, by omega, h2, h3, fun j hj hk => ?_⟩
        rcases Nat.lt_or_ge j k with h | h
        · exact h4 j hj h
        · rw [show j = k by omega, hpk, hqk]
      · rintro ⟨i, h1, h2, h3, h4⟩
        have : i ≠ k := fun e => by rw [e, hpk] at h2; cases h2
        exact ⟨i, by omega, h2, h3, fun j hj hk => h4 j hj (by omega)⟩
end
section
/-! numbers and frames that all methods use -/
theorem fa_lt (a b : Int32) : a < b ↔ a.toInt < b.toInt := Int32.lt_iff_toInt_lt
theorem fa_le (a b : Int32) : a ≤ b ↔ a.toInt ≤ b.toInt := Int32.le_iff_toInt_le
theorem fa_eq (a b : Int32) : a = b ↔ a.toInt = b.toInt := Int32.toInt_inj.symm
theorem fa_wide_le (a b : Int32) : a.toInt64 ≤ b.toInt64 ↔ a ≤ b := by rw [Int64.le_iff_toInt_le, fa_le, Int32.toInt_toInt64, Int32.toInt_toInt64]
theorem fb_rng (x : Int32) : -2147483648 ≤ x.toInt ∧ x.toInt < 2147483648 := ⟨Int32.le_toInt x, Int32.toInt_lt x⟩
theorem fb_bmod {z : Int} (h1 : -2147483648 ≤ z) (h2 : z < 2147483648) : z.bmod (2 ^ 32) = z := by rw [Int.bmod_def]; split <;> omega
theorem fb_addI {x y : Int32} (h1 : -2147483648 ≤ x.toInt + y.toInt) (h2 : x.toInt + y.toInt < 2147483648) : (x + y).toInt = x.toInt + y.toInt := by rw [Int32.toInt_add, fb_bmod h1 h2]
theorem fb_subI {x y : Int32} (h1 : -2147483648 ≤ x.toInt - y.toInt) (h2 : x.toInt - y.toInt < 2147483648) : (x - y).toInt = x.toInt - y.toInt := by rw [Int32.toInt_sub, fb_bmod h1 h2]
theorem zup_n {σ : zSt} {c c' i : Nat} {v : Int32} (h : c' ≠ c) : zup σ c i v c' = σ c' := zrow_n h
theorem zup_s {σ : zSt} {c i : Nat} {v : Int32} : zup σ c i v c = upd (σ c) i v := zrow_s
theorem zup_a {σ : zSt} {c i : Nat} {v : Int32} : zup σ c i v c i = v := by rw [zup_s]; exact pk_us
theorem zup_b {σ : zSt} {c i j : Nat} {v : Int32} (h : j ≠ i) : zup σ c i v c j = σ c j := by rw [zup_s]; exact pk_un h
/-- a number from 0 to N is some nI j -/
theorem zix {x : Int32} {N : Nat} (h0 : 0 ≤ x) (h : x < nI N) (hN : N < 2 ^ 31) : ∃ j, j < N ∧ x = nI j := by
  rw [fa_le] at h0
  rw [fa_lt, nI_toInt hN] at h
  have h0 : 0 ≤ x.toInt := h0
  have hv : vp_in x N := vp_in_iff.mpr ⟨h0, h⟩
  exact vp_in_of hv hN
theorem SHlen : SH.length = 68 := rfl
theorem SHb {j : Nat} (h : j < 6) : SH[35 + 2 * j]? = some (.inr (.inr (4, [some (some (36 + 2 * j)), none, none]))) := by
  match j, h with
  | 0, _ => rfl
  | 1, _ => rfl
  | 2, _ => rfl
  | 3, _ => rfl
  | 4, _ => rfl
  | 5, _ => rfl
theorem SHr {j : Nat} (h : j < 6) : SH[36 + 2 * j]? = some (.inl 16) := by
  match j, h with
  | 0, _ => rfl
  | 1, _ => rfl
  | 2, _ => rfl
  | 3, _ => rfl
  | 4, _ => rfl
  | 5, _ => rfl
theorem SHa {j : Nat} (h : j < 6) : ([some 35, some 37, some 39, some 41, some 43, some 45] : List (Option Nat))[(nI j).toNatClampNeg]? = some (some (35 + 2 * j)) := by
  rw [nI_clamp (by omega)]
  match j, h with
  | 0, _ => rfl
  | 1, _ => rfl
  | 2, _ => rfl
  | 3, _ => rfl
  | 4, _ => rfl
  | 5, _ => rfl
theorem zokR {j : Nat} (h : j < 68) : zokv SH.length (.ref j) = true := by simp [zokv, SHlen, h]
theorem zokI {N : Nat} {x : Int32} : zokv N (.int x) = true := rfl
theorem zokS {N : Nat} {v : Value} : zoko N (some v) = zokv N v := rfl
theorem zokN {N : Nat} : zoko N none = true := rfl
/-! the sheets of the class -/
def ShOk (sk : Nat → Int32) (sz : Nat → Nat) : Prop := ∀ j, j < 6 → sz j ≤ 16 ∧ (sk j = -1 ∨ sk j = 0 ∨ sk j = 1 ∨ sk j = 2)
def XSh (σ : zSt) (sk : Nat → Int32) (sz : Nat → Nat) (sv : Nat → Nat → Int32) : Prop := ∀ j, j < 6 → σ (35 + 2 * j) 1 = sk j ∧ σ (35 + 2 * j) 2 = nI (sz j) ∧ ∀ i, i < 16 → σ (36 + 2 * j) i = sv j i
def MSh (σ : zSt) (sk : Nat → Int32) (sz : Nat → Nat) (sv : Nat → Nat → Int32) : Prop := ∀ j, j < 6 → σ 48 j = sk j ∧ σ 49 j = nI (sz j) ∧ ∀ i, i < 16 → σ 50 (16 * j + i) = sv j i
theorem tX6_isSheet {S : List zSh} {σ : zSt} {r : Int32} : zI mX6_isSheet [.int r] S σ (fun x t => x = (if 0 ≤ r ∧ r < 6 then 1 else 0) ∧ t = σ) := by
  refine zI_of (ls := [some (.int r)]) (by decide) rfl rfl ?_
  refine za_iload_n (pc := 0) dX6_isSheet_0 rfl ?_
  refine za_if_lt (pc := 1) 14 dX6_isSheet_1 (by decide) (fun c_1 => ?_) (fun c_1 => ?_)
  · refine za_iconst (pc := 14) (0) dX6_isSheet_14 (by decide) ?_
    refine za_rz (pc := 15) dX6_isSheet_15 rfl rfl rfl rfl ?_
    refine ⟨?_, rfl⟩; simp only [fa_lt, fa_le] at *; simp only [show (0 : Int32).toInt = 0 from rfl, show (6 : Int32).toInt = 6 from rfl] at *; first | rw [if_pos (by omega)] | rw [if_neg (by omega)]
  · refine za_iload_n (pc := 4) dX6_isSheet_4 rfl ?_
    refine za_bipush (pc := 5) (6) dX6_isSheet_5 (by decide) ?_
    refine za_icmp_ge (pc := 7) 14 dX6_isSheet_7 (by decide) (fun c_7 => ?_) (fun c_7 => ?_)
    · refine za_iconst (pc := 14) (0) dX6_isSheet_14 (by decide) ?_
      refine za_rz (pc := 15) dX6_isSheet_15 rfl rfl rfl rfl ?_
      refine ⟨?_, rfl⟩; simp only [fa_lt, fa_le] at *; simp only [show (0 : Int32).toInt = 0 from rfl, show (6 : Int32).toInt = 6 from rfl] at *; first | rw [if_pos (by omega)] | rw [if_neg (by omega)]
    · refine za_iconst (pc := 10) (1) dX6_isSheet_10 (by decide) ?_
      refine za_goto (pc := 11) 15 dX6_isSheet_11 (by decide) ?_
      refine za_rz (pc := 15) dX6_isSheet_15 rfl rfl rfl rfl ?_
      refine ⟨?_, rfl⟩; simp only [fa_lt, fa_le] at *; simp only [show (0 : Int32).toInt = 0 from rfl, show (6 : Int32).toInt = 6 from rfl] at *; first | rw [if_pos (by omega)] | rw [if_neg (by omega)]
theorem tX4_become {σ : zSt} {j : Nat} {kd p : Int32} (hj : j < 6) : zV mX4_become [.ref (35 + 2 * j), .int kd, .int p] SH σ (fun t => t = zrow (zup (zup σ (35 + 2 * j) 1 kd) (35 + 2 * j) 2 p) (36 + 2 * j) (fa_fill (fun _ => 0) (σ (36 + 2 * j)) 16)) := by
  have hb := SHb hj
  have hr := SHr hj
  refine zV_of (ls := [some (.ref (35 + 2 * j)), some (.int kd), some (.int p)]) (by decide) rfl rfl ?_
  refine za_aload_n (pc := 0) dX4_become_0 rfl ?_
  refine za_iload_n (pc := 1) dX4_become_1 rfl ?_
  refine za_putI (pc := 2) dX4_become_2 lp_X4_15 hb rfl ?_
  refine za_aload_n (pc := 5) dX4_become_5 rfl ?_
  refine za_iload_n (pc := 6) dX4_become_6 rfl ?_
  refine za_putI (pc := 7) dX4_become_7 lp_X4_19 hb rfl ?_
  refine za_aload_n (pc := 10) dX4_become_10 rfl ?_
  refine za_getR (pc := 11) dX4_become_11 lk_X4_9 hb rfl ?_
  refine za_iconst (pc := 14) (0) dX4_become_14 (by decide) ?_
  refine za_cS2v (pc := 15) (μ' := mJ7_fill_53178) dX4_become_15 c_X4_22 rfl ⟨rfl, rfl⟩ ⟨rfl, rfl⟩ rfl (by simp [zokS, zokI, zokR (show 35 + 2 * j < 68 by omega)]) rfl (tJ7_fill_53178 hr (by omega)) (fun t_15 h_15 => ?_)
  have h9 := h_15.symm
  subst h9
  refine za_rv (pc := 18) dX4_become_18 rfl rfl rfl ?_
  rw [zup_n (by omega), zup_n (by omega)]
theorem tX4_isMissing {σ : zSt} {j : Nat} (hj : j < 6) : zI mX4_isMissing [.ref (35 + 2 * j)] SH σ (fun x t => x = (if σ (35 + 2 * j) 1 = -1 then 1 else 0) ∧ t = σ) := by
  have hb := SHb hj
  refine zI_of (ls := [some (.ref (35 + 2 * j))]) (by decide) rfl rfl ?_
  refine za_aload_n (pc := 0) dX4_isMissing_0 rfl ?_
  refine za_getI (pc := 1) dX4_isMissing_1 lk_X4_15 hb rfl ?_
  refine za_iconst (pc := 4) (-1) dX4_isMissing_4 (by decide) ?_
  refine za_icmp_ne (pc := 5) 12 dX4_isMissing_5 (by decide) (fun c_5 => ?_) (fun c_5 => ?_)
  · refine za_iconst (pc := 12) (0) dX4_isMissing_12 (by decide) ?_
    refine za_rz (pc := 13) dX4_isMissing_13 rfl rfl rfl rfl ?_
    exact ⟨by simp [*], rfl⟩
  · refine za_iconst (pc := 8) (1) dX4_isMissing_8 (by decide) ?_
    refine za_goto (pc := 9) 13 dX4_isMissing_9 (by decide) ?_
    refine za_rz (pc := 13) dX4_isMissing_13 rfl rfl rfl rfl ?_
    exact ⟨by simp [*], rfl⟩
theorem tX4_hasPlaces {σ : zSt} {j s : Nat} {i n : Int32} (hj : j < 6) (hs : σ (35 + 2 * j) 2 = nI s) (hs16 : s ≤ 16) : zI mX4_hasPlaces [.ref (35 + 2 * j), .int i, .int n] SH σ (fun x t => x = (if 0 ≤ i.toInt ∧ 0 ≤ n.toInt ∧ i.toInt + n.toInt ≤ s then 1 else 0) ∧ t = σ) := by
  have hb := SHb hj
  have e0 : (0 : Int32).toInt = 0 := rfl
  have hi := fb_rng i
  have hn := fb_rng n
  have es : (nI s).toInt = s := nI_toInt (by omega)
  refine zI_of (ls := [some (.ref (35 + 2 * j)), some (.int i), some (.int n)]) (by decide) rfl rfl ?_
  refine za_iload_n (pc := 0) dX4_hasPlaces_0 rfl ?_
  refine za_if_lt (pc := 1) 22 dX4_hasPlaces_1 (by decide) (fun c1 => ?_) (fun c1 => ?_)
  · refine za_iconst (pc := 22) (0) dX4_hasPlaces_22 (by decide) ?_
    refine za_rz (pc := 23) dX4_hasPlaces_23 rfl rfl rfl rfl ?_
    rw [fa_lt, e0] at c1
    exact ⟨(if_neg (by omega)).symm, rfl⟩
  · refine za_iload_n (pc := 4) dX4_hasPlaces_4 rfl ?_
    refine za_if_lt (pc := 5) 22 dX4_hasPlaces_5 (by decide) (fun c2 => ?_) (fun c2 => ?_)
    · refine za_iconst (pc := 22) (0) dX4_hasPlaces_22 (by decide) ?_
      refine za_rz (pc := 23) dX4_hasPlaces_23 rfl rfl rfl rfl ?_
      rw [fa_lt, e0] at c2
      exact ⟨(if_neg (by omega)).symm, rfl⟩
    · rw [fa_lt, e0] at c1 c2
      refine za_iload_n (pc := 8) dX4_hasPlaces_8 rfl ?_
      refine za_aload_n (pc := 9) dX4_hasPlaces_9 rfl ?_
      refine za_getI (pc := 10) dX4_hasPlaces_10 lk_X4_19 hb rfl ?_
      refine za_iload_n (pc := 13) dX4_hasPlaces_13 rfl ?_
      refine za_isub (pc := 14) dX4_hasPlaces_14 ?_
      refine za_icmp_gt (pc := 15) 22 dX4_hasPlaces_15 (by decide) (fun c3 => ?_) (fun c3 => ?_)
      · refine za_iconst (pc := 22) (0) dX4_hasPlaces_22 (by decide) ?_
        refine za_rz (pc := 23) dX4_hasPlaces_23 rfl rfl rfl rfl ?_
        rw [hs, fa_lt, fb_subI (by omega) (by omega), es] at c3
        exact ⟨(if_neg (by omega)).symm, rfl⟩
      · refine za_iconst (pc := 18) (1) dX4_hasPlaces_18 (by decide) ?_
        refine za_goto (pc := 19) 23 dX4_hasPlaces_19 (by decide) ?_
        refine za_rz (pc := 23) dX4_hasPlaces_23 rfl rfl rfl rfl ?_
        rw [hs, fa_lt, fb_subI (by omega) (by omega), es] at c3
        exact ⟨(if_pos (by omega)).symm, rfl⟩
/-- what a sheet of kind k keeps of v -/
def cutv (k v : Int32) : Int32 := if k = 0 then v.toInt8.toInt32 else if k = 1 then v.toInt16.toInt32 else v
theorem tX4_cut {σ : zSt} {j : Nat} {v : Int32} (hj : j < 6) : zI mX4_cut [.ref (35 + 2 * j), .int v] SH σ (fun x t => x = cutv (σ (35 + 2 * j) 1) v ∧ t = σ) := by
  have hb := SHb hj
  refine zI_of (ls := [some (.ref (35 + 2 * j)), some (.int v)]) (by decide) rfl rfl ?_
  refine za_aload_n (pc := 0) dX4_cut_0 rfl ?_
  refine za_getI (pc := 1) dX4_cut_1 lk_X4_15 hb rfl ?_
  by_cases h0 : σ (35 + 2 * j) 1 = 0
  · refine za_lookup (pc := 4) (off := 28) 32 dX4_cut_4 rfl (by rw [h0]; rfl) (by decide) ?_
    refine za_iload_n (pc := 32) dX4_cut_32 rfl ?_
    refine za_i2b (pc := 33) dX4_cut_33 ?_
    refine za_ri (pc := 34) dX4_cut_34 rfl rfl rfl ?_
    exact ⟨by rw [cutv, if_pos h0], rfl⟩
  · by_cases h1 : σ (35 + 2 * j) 1 = 1
    · refine za_lookup (pc := 4) (off := 31) 35 dX4_cut_4 rfl (by rw [h1]; rfl) (by decide) ?_
      refine za_iload_n (pc := 35) dX4_cut_35 rfl ?_
      refine za_i2s (pc := 36) dX4_cut_36 ?_
      refine za_ri (pc := 37) dX4_cut_37 rfl rfl rfl ?_
      exact ⟨by rw [cutv, if_neg h0, if_pos h1], rfl⟩
    · refine za_lookup (pc := 4) (off := 34) 38 dX4_cut_4 rfl ((lv_osw (k := 0) h0 rfl).trans ((lv_osw (k := 1) h1 rfl).trans rfl)) (by decide) ?_
      refine za_iload_n (pc := 38) dX4_cut_38 rfl ?_
      refine za_ri (pc := 39) dX4_cut_39 rfl rfl rfl ?_
      exact ⟨by rw [cutv, if_neg h0, if_neg h1], rfl⟩
theorem tX4_write {σ : zSt} {j i : Nat} {v : Int32} (hj : j < 6) (hi : i < 16) : zV mX4_write [.ref (35 + 2 * j), .int (nI i), .int v] SH σ (fun t => t = zup σ (36 + 2 * j) i (cutv (σ (35 + 2 * j) 1) v)) := by
  have hb := SHb hj
  have hr := SHr hj
  refine zV_of (ls := [some (.ref (35 + 2 * j)), some (.int (nI i)), some (.int v)]) (by decide) rfl rfl ?_
  refine za_aload_n (pc := 0) dX4_write_0 rfl ?_
  refine za_getR (pc := 1) dX4_write_1 lk_X4_9 hb rfl ?_
  refine za_iload_n (pc := 4) dX4_write_4 rfl ?_
  refine za_aload_n (pc := 5) dX4_write_5 rfl ?_
  refine za_iload_n (pc := 6) dX4_write_6 rfl ?_
  refine za_cV1i (pc := 7) (μ' := mX4_cut) dX4_write_7 c_X4_28 hb rfl rfl ⟨rfl, rfl⟩ ⟨rfl, rfl⟩ rfl (by simp [zokS, zokI, zokR (show 35 + 2 * j < 68 by omega)]) (by simp [zokI, zokR (show 36 + 2 * j < 68 by omega)]) (tX4_cut hj) (fun x_7 t_7 h_7 => ?_)
  obtain ⟨rfl, h9⟩ := h_7
  have h9 := h9.symm
  subst h9
  refine za_iast (pc := 10) dX4_write_10 hr (vp_in_nI hi (by omega)) ?_
  refine za_rv (pc := 11) dX4_write_11 rfl rfl rfl ?_
  rw [nI_clamp (by omega)]
end
section
/-! the sheets: what each call answers and leaves, and that the class does it -/
abbrev Shs : Type := (Nat → Int32) × (Nat → Nat) × (Nat → Nat → Int32)
abbrev isSh (r : Int32) : Prop := 0 ≤ r ∧ r < 6
theorem isSh_ix {r : Int32} (h : isSh r) : ∃ j, j < 6 ∧ r = nI j := zix (N := 6) h.1 h.2 (by decide)
theorem isSh_nI {j : Nat} (h : j < 6) : isSh (nI j) := ⟨nI_pos' (by omega), nI_lt h (by decide)⟩
def shSet (ss : Shs) (j : Nat) (k : Int32) (m : Nat) (f : Nat → Int32) : Shs := (va_up ss.1 j k, va_up ss.2.1 j m, va_up ss.2.2 j f)
def spSheet (r kd n : Int32) (ss : Shs) : Int32 × Shs :=
  if isSh r ∧ (-1 ≤ kd ∧ kd ≤ 2) then
    if kd = -1 then (0, shSet ss r.toNatClampNeg (-1) 0 (fun _ => 0))
    else if 16 < n then (-1, ss) else if n < 0 then (-13, ss) else (0, shSet ss r.toNatClampNeg kd n.toNatClampNeg (fun _ => 0))
  else (-1, ss)
def spPut (r i v : Int32) (ss : Shs) : Int32 × Shs :=
  if isSh r then
    if ss.1 r.toNatClampNeg = -1 then (-11, ss)
    else if 0 ≤ i.toInt ∧ i.toInt < ss.2.1 r.toNatClampNeg then (0, (ss.1, ss.2.1, va_up ss.2.2 r.toNatClampNeg (upd (ss.2.2 r.toNatClampNeg) i.toNatClampNeg (cutv (ss.1 r.toNatClampNeg) v))))
    else (-12, ss)
  else (-1, ss)
def spCopy (r i t j n : Int32) (ss : Shs) : Int32 × Shs :=
  if isSh r ∧ isSh t then
    if ss.1 r.toNatClampNeg = -1 ∨ ss.1 t.toNatClampNeg = -1 then (-11, ss)
    else if ss.1 r.toNatClampNeg = ss.1 t.toNatClampNeg then
      if (0 ≤ i.toInt ∧ 0 ≤ n.toInt ∧ i.toInt + n.toInt ≤ ss.2.1 r.toNatClampNeg) ∧ (0 ≤ j.toInt ∧ 0 ≤ n.toInt ∧ j.toInt + n.toInt ≤ ss.2.1 t.toNatClampNeg) then
        (0, (ss.1, ss.2.1, va_up ss.2.2 t.toNatClampNeg (va_cpy (ss.2.2 r.toNatClampNeg) (ss.2.2 t.toNatClampNeg) i.toNatClampNeg j.toNatClampNeg n.toNatClampNeg)))
      else (-12, ss)
    else (-14, ss)
  else (-1, ss)
def spTold (r i : Int32) (ss : Shs) : Int64 :=
  if isSh r then
    if ss.1 r.toNatClampNeg = -1 then 10000000011
    else if 0 ≤ i.toInt ∧ i.toInt < ss.2.1 r.toNatClampNeg then (ss.2.2 r.toNatClampNeg i.toNatClampNeg).toInt64
    else 10000000012
  else 10000000001
abbrev XS (σ : zSt) (ss : Shs) : Prop := XSh σ ss.1 ss.2.1 ss.2.2
abbrev MS (σ : zSt) (ss : Shs) : Prop := MSh σ ss.1 ss.2.1 ss.2.2
abbrev SO (ss : Shs) : Prop := ShOk ss.1 ss.2.1
theorem va_up_s {α : Type} {f : Nat → α} {k : Nat} {v : α} : va_up f k v k = v := if_pos rfl
theorem va_up_o {α : Type} {f : Nat → α} {k j : Nat} {v : α} (h : j ≠ k) : va_up f k v j = f j := if_neg h
theorem XS_become {σ : zSt} {ss : Shs} {j m : Nat} {k : Int32} (h : XS σ ss) (hj : j < 6) : XS (zrow (zup (zup σ (35 + 2 * j) 1 k) (35 + 2 * j) 2 (nI m)) (36 + 2 * j) (fa_fill (fun _ => 0) (σ (36 + 2 * j)) 16)) (shSet ss j k m (fun _ => 0)) := by
  intro q hq
  by_cases e : q = j
  · subst e
    refine ⟨?_, ?_, fun i hi => ?_⟩
    · rw [zrow_n (by omega), zup_b (by decide), zup_a]; simp [shSet, va_up]
    · rw [zrow_n (by omega), zup_a]; simp [shSet, va_up]
    · rw [zrow_s, fa_fill, if_pos hi]; simp [shSet, va_up]
  · obtain ⟨h1, h2, h3⟩ := h q hq
    refine ⟨?_, ?_, fun i hi => ?_⟩
    · rw [zrow_n (by omega), zup_n (by omega), zup_n (by omega)]; simp only [shSet, va_up, if_neg e]; exact h1
    · rw [zrow_n (by omega), zup_n (by omega), zup_n (by omega)]; simp only [shSet, va_up, if_neg e]; exact h2
    · rw [zrow_n (by omega), zup_n (by omega), zup_n (by omega)]; simp only [shSet, va_up, if_neg e]; exact h3 i hi
theorem tX6_sheet {σ : zSt} {ss : Shs} {r kd n : Int32} (h : XS σ ss) : zI mX6_sheet [.ref 0, .int r, .int kd, .int n] SH σ (fun x t => x = (spSheet r kd n ss).1 ∧ XS t (spSheet r kd n ss).2 ∧ ∀ c, c < 35 ∨ 47 ≤ c → t c = σ c) := by
  refine zI_of (ls := [some (.ref 0), some (.int r), some (.int kd), some (.int n)]) (by decide) rfl rfl ?_
  refine za_iload_n (pc := 0) dX6_sheet_0 rfl ?_
  refine za_cS1i (pc := 1) (μ' := mX6_isSheet) dX6_sheet_1 c_X6_55 rfl ⟨rfl, rfl⟩ ⟨rfl, rfl⟩ rfl rfl rfl (tX6_isSheet) (fun x_1 t_1 h_1 => ?_)
  obtain ⟨rfl, h9⟩ := h_1
  have h9 := h9.symm
  subst h9
  by_cases h1 : 0 ≤ r ∧ r < 6
  · rw [if_pos h1]
    refine za_if_eq (pc := 4) 17 dX6_sheet_4 (by decide) (fun c4 => ?_) (fun c4 => ?_)
    · exact absurd c4 (by decide)
    refine za_iload_n (pc := 7) dX6_sheet_7 rfl ?_
    refine za_iconst (pc := 8) (-1) dX6_sheet_8 (by decide) ?_
    refine za_icmp_lt (pc := 9) 17 dX6_sheet_9 (by decide) (fun c9 => ?_) (fun c9 => ?_)
    · refine za_iconst (pc := 17) (-1) dX6_sheet_17 (by decide) ?_
      refine za_ri (pc := 18) dX6_sheet_18 rfl rfl rfl ?_
      rw [spSheet, if_neg (fun q => absurd q.2.1 (by rw [fa_le]; rw [fa_lt] at c9; omega))]
      exact ⟨rfl, h, fun _ _ => rfl⟩
    refine za_iload_n (pc := 12) dX6_sheet_12 rfl ?_
    refine za_iconst (pc := 13) (2) dX6_sheet_13 (by decide) ?_
    refine za_icmp_le (pc := 14) 19 dX6_sheet_14 (by decide) (fun c14 => ?_) (fun c14 => ?_)
    · have hk : isSh r ∧ (-1 ≤ kd ∧ kd ≤ 2) := ⟨h1, by rw [fa_le]; rw [fa_lt] at c9; omega, c14⟩
      obtain ⟨j, hj, rfl⟩ := isSh_ix h1
      have ej : (nI j).toNatClampNeg = j := nI_clamp (by omega)
      refine za_iload_n (pc := 19) dX6_sheet_19 rfl ?_
      refine za_iconst (pc := 20) (-1) dX6_sheet_20 (by decide) ?_
      refine za_icmp_ne (pc := 21) 37 dX6_sheet_21 (by decide) (fun c21 => ?_) (fun c21 => ?_)
      · refine za_iload_n (pc := 37) dX6_sheet_37 rfl ?_
        refine za_bipush (pc := 38) (16) dX6_sheet_38 (by decide) ?_
        refine za_icmp_le (pc := 40) 45 dX6_sheet_40 (by decide) (fun c40 => ?_) (fun c40 => ?_)
        · refine za_iload_n (pc := 45) dX6_sheet_45 rfl ?_
          refine za_if_ge (pc := 46) 52 dX6_sheet_46 (by decide) (fun c46 => ?_) (fun c46 => ?_)
          · obtain ⟨m, hm, rfl⟩ := zix (N := 17) c46 (by rw [fa_lt]; rw [fa_le] at c40; have e1 : (16 : Int32).toInt = 16 := rfl; have e2 : (nI 17).toInt = 17 := rfl; omega) (by decide)
            refine za_aload_n (pc := 52) dX6_sheet_52 rfl ?_
            refine za_getR (pc := 53) dX6_sheet_53 lk_X6_11 rfl rfl ?_
            refine za_iload_n (pc := 56) dX6_sheet_56 rfl ?_
            refine za_aald (pc := 57) dX6_sheet_57 rfl (vp_in_nI hj (by decide)) (SHa hj) ?_
            refine za_iload_n (pc := 58) dX6_sheet_58 rfl ?_
            refine za_iload_n (pc := 59) dX6_sheet_59 rfl ?_
            refine za_cV2v (pc := 60) (μ' := mX4_become) dX6_sheet_60 c_X6_59 (SHb hj) rfl rfl ⟨rfl, rfl⟩ ⟨rfl, rfl⟩ rfl rfl rfl (tX4_become hj) (fun t_60 h_60 => ?_)
            have h9 := h_60.symm
            subst h9
            refine za_iconst (pc := 63) (0) dX6_sheet_63 (by decide) ?_
            refine za_ri (pc := 64) dX6_sheet_64 rfl rfl rfl ?_
            rw [spSheet, if_pos hk, if_neg c21, if_neg (by rw [fa_lt]; rw [fa_le] at c40; omega), if_neg (nI_pos (by omega)), ej, nI_clamp (by omega)]
            exact ⟨rfl, XS_become h hj, fun c hc => by rw [zrow_n (by omega), zup_n (by omega), zup_n (by omega)]⟩
          · refine za_bipush (pc := 49) (-13) dX6_sheet_49 (by decide) ?_
            refine za_ri (pc := 51) dX6_sheet_51 rfl rfl rfl ?_
            rw [spSheet, if_pos hk, if_neg c21, if_neg (by rw [fa_lt]; rw [fa_le] at c40; omega), if_pos (by rw [fa_lt]; rw [fa_le] at c46; omega)]
            exact ⟨rfl, h, fun _ _ => rfl⟩
        · refine za_iconst (pc := 43) (-1) dX6_sheet_43 (by decide) ?_
          refine za_ri (pc := 44) dX6_sheet_44 rfl rfl rfl ?_
          rw [spSheet, if_pos hk, if_neg c21, if_pos (by rw [fa_lt]; rw [fa_le] at c40; omega)]
          exact ⟨rfl, h, fun _ _ => rfl⟩
      · refine za_aload_n (pc := 24) dX6_sheet_24 rfl ?_
        refine za_getR (pc := 25) dX6_sheet_25 lk_X6_11 rfl rfl ?_
        refine za_iload_n (pc := 28) dX6_sheet_28 rfl ?_
        refine za_aald (pc := 29) dX6_sheet_29 rfl (vp_in_nI hj (by decide)) (SHa hj) ?_
        refine za_iconst (pc := 30) (-1) dX6_sheet_30 (by decide) ?_
        refine za_iconst (pc := 31) (0) dX6_sheet_31 (by decide) ?_
        refine za_cV2v (pc := 32) (μ' := mX4_become) dX6_sheet_32 c_X6_59 (SHb hj) rfl rfl ⟨rfl, rfl⟩ ⟨rfl, rfl⟩ rfl rfl rfl (tX4_become hj) (fun t_32 h_32 => ?_)
        have h9 := h_32.symm
        subst h9
        refine za_iconst (pc := 35) (0) dX6_sheet_35 (by decide) ?_
        refine za_ri (pc := 36) dX6_sheet_36 rfl rfl rfl ?_
        rw [spSheet, if_pos hk, if_pos c21, ej]
        exact ⟨rfl, XS_become (m := 0) h hj, fun c hc => by rw [zrow_n (by omega), zup_n (by omega), zup_n (by omega)]⟩
    · refine za_iconst (pc := 17) (-1) dX6_sheet_17 (by decide) ?_
      refine za_ri (pc := 18) dX6_sheet_18 rfl rfl rfl ?_
      rw [spSheet, if_neg (fun q => c14 q.2.2)]
      exact ⟨rfl, h, fun _ _ => rfl⟩
  · rw [if_neg h1]
    refine za_if_eq (pc := 4) 17 dX6_sheet_4 (by decide) (fun c4 => ?_) (fun c4 => ?_)
    · refine za_iconst (pc := 17) (-1) dX6_sheet_17 (by decide) ?_
      refine za_ri (pc := 18) dX6_sheet_18 rfl rfl rfl ?_
      rw [spSheet, if_neg (fun q => h1 q.1)]
      exact ⟨rfl, h, fun _ _ => rfl⟩
    · exact absurd rfl c4
theorem XS_frame {σ : zSt} {ss : Shs} {j : Nat} {f g : Nat → Int32} (h : XS σ ss) (hj : j < 6) (hf : ∀ i, i < 16 → g i = f i) : XS (zrow σ (36 + 2 * j) g) (ss.1, ss.2.1, va_up ss.2.2 j f) := by
  intro q hq
  obtain ⟨h1, h2, h3⟩ := h q hq
  refine ⟨?_, ?_, fun i hi => ?_⟩
  · rw [zrow_n (by omega)]; exact h1
  · rw [zrow_n (by omega)]; exact h2
  · by_cases e : q = j
    · subst e
      rw [zrow_s, hf i hi]; simp [va_up]
    · rw [zrow_n (by omega)]; simp only [va_up, if_neg e]; exact h3 i hi
theorem tX6_put {σ : zSt} {ss : Shs} {r i v : Int32} (h : XS σ ss) (ho : SO ss) : zI mX6_put [.ref 0, .int r, .int i, .int v] SH σ (fun x t => x = (spPut r i v ss).1 ∧ XS t (spPut r i v ss).2 ∧ ∀ c, c < 35 ∨ 47 ≤ c → t c = σ c) := by
  refine zI_of (ls := [some (.ref 0), some (.int r), some (.int i), some (.int v), none]) (by decide) rfl rfl ?_
  refine za_iload_n (pc := 0) dX6_put_0 rfl ?_
  refine za_cS1i (pc := 1) (μ' := mX6_isSheet) dX6_put_1 c_X6_55 rfl ⟨rfl, rfl⟩ ⟨rfl, rfl⟩ rfl rfl rfl (tX6_isSheet) (fun x_1 t_1 h_1 => ?_)
  obtain ⟨rfl, h9⟩ := h_1
  have h9 := h9.symm
  subst h9
  by_cases h1 : 0 ≤ r ∧ r < 6
  · rw [if_pos h1]
    refine za_if_ne (pc := 4) 9 dX6_put_4 (by decide) (fun c4 => ?_) (fun c4 => ?_)
    · obtain ⟨j, hj, rfl⟩ := isSh_ix h1
      have ej : (nI j).toNatClampNeg = j := nI_clamp (by omega)
      obtain ⟨k1, k2, k3⟩ := h j hj
      have hsz := (ho j hj).1
      have hb := SHb hj
      have hol : zokv SH.length (.ref (35 + 2 * j)) = true := zokR (by omega)
      refine za_aload_n (pc := 9) dX6_put_9 rfl ?_
      refine za_getR (pc := 10) dX6_put_10 lk_X6_11 rfl rfl ?_
      refine za_iload_n (pc := 13) dX6_put_13 rfl ?_
      refine za_aald (pc := 14) dX6_put_14 rfl (vp_in_nI hj (by decide)) (SHa hj) ?_
      refine za_as4 (pc := 15) dX6_put_15 rfl ?_
      refine za_aload (pc := 17) dX6_put_17 rfl ?_
      refine za_cV0i (pc := 19) (μ' := mX4_isMissing) dX6_put_19 c_X6_63 hb rfl rfl ⟨rfl, rfl⟩ ⟨rfl, rfl⟩ rfl (by simp [zokS, zokI, zokR, hol]) rfl (tX4_isMissing hj) (fun x_19 t_19 h_19 => ?_)
      obtain ⟨rfl, h9⟩ := h_19
      have h9 := h9.symm
      subst h9
      by_cases hm : ss.1 j = -1
      · rw [if_pos (k1.trans hm)]
        refine za_if_eq (pc := 22) 28 dX6_put_22 (by decide) (fun c22 => ?_) (fun c22 => ?_)
        · exact absurd c22 (by decide)
        · refine za_bipush (pc := 25) (-11) dX6_put_25 (by decide) ?_
          refine za_ri (pc := 27) dX6_put_27 rfl rfl rfl ?_
          rw [spPut, if_pos h1, ej, if_pos hm]
          exact ⟨rfl, h, fun _ _ => rfl⟩
      · rw [if_neg (fun q => hm (k1.symm.trans q))]
        refine za_if_eq (pc := 22) 28 dX6_put_22 (by decide) (fun c22 => ?_) (fun c22 => ?_)
        · refine za_aload (pc := 28) dX6_put_28 rfl ?_
          refine za_iload_n (pc := 30) dX6_put_30 rfl ?_
          refine za_iconst (pc := 31) (1) dX6_put_31 (by decide) ?_
          refine za_cV2i (pc := 32) (μ' := mX4_hasPlaces) dX6_put_32 c_X6_67 hb rfl rfl ⟨rfl, rfl⟩ ⟨rfl, rfl⟩ rfl (by simp [zokS, zokI, zokR, hol]) rfl (tX4_hasPlaces hj k2 hsz) (fun x_32 t_32 h_32 => ?_)
          obtain ⟨rfl, h9⟩ := h_32
          have h9 := h9.symm
          subst h9
          have e1 : (1 : Int32).toInt = 1 := rfl
          by_cases hi : 0 ≤ i.toInt ∧ i.toInt < ss.2.1 j
          · rw [if_pos (by rw [e1]; omega)]
            refine za_if_ne (pc := 35) 41 dX6_put_35 (by decide) (fun c35 => ?_) (fun c35 => ?_)
            · obtain ⟨q, hq, rfl⟩ := vp_in_of (vp_in_iff.mpr hi) (by omega)
              refine za_aload (pc := 41) dX6_put_41 rfl ?_
              refine za_iload_n (pc := 43) dX6_put_43 rfl ?_
              refine za_iload_n (pc := 44) dX6_put_44 rfl ?_
              refine za_cV2v (pc := 45) (μ' := mX4_write) dX6_put_45 c_X6_71 hb rfl rfl ⟨rfl, rfl⟩ ⟨rfl, rfl⟩ rfl (by simp [zokS, zokI, zokR, hol]) rfl (tX4_write hj (Nat.lt_of_lt_of_le hq hsz)) (fun t_45 h_45 => ?_)
              have h9 := h_45.symm
              subst h9
              refine za_iconst (pc := 48) (0) dX6_put_48 (by decide) ?_
              refine za_ri (pc := 49) dX6_put_49 rfl rfl rfl ?_
              rw [spPut, if_pos h1, ej, if_neg hm, if_pos hi, nI_clamp (by omega), k1]
              refine ⟨rfl, XS_frame h hj (fun i hi => ?_), fun c hc => zup_n (by omega)⟩
              unfold upd
              rw [k3 i hi]
            · exact absurd c35 (by decide)
          · rw [if_neg (by rw [e1]; omega)]
            refine za_if_ne (pc := 35) 41 dX6_put_35 (by decide) (fun c35 => ?_) (fun c35 => ?_)
            · exact absurd rfl c35
            · refine za_bipush (pc := 38) (-12) dX6_put_38 (by decide) ?_
              refine za_ri (pc := 40) dX6_put_40 rfl rfl rfl ?_
              rw [spPut, if_pos h1, ej, if_neg hm, if_neg hi]
              exact ⟨rfl, h, fun _ _ => rfl⟩
        · exact absurd rfl c22
    · exact absurd c4 (by decide)
  · rw [if_neg h1]
    refine za_if_ne (pc := 4) 9 dX6_put_4 (by decide) (fun c4 => ?_) (fun c4 => ?_)
    · exact absurd rfl c4
    · refine za_iconst (pc := 7) (-1) dX6_put_7 (by decide) ?_
      refine za_ri (pc := 8) dX6_put_8 rfl rfl rfl ?_
      rw [spPut, if_neg h1]
      exact ⟨rfl, h, fun _ _ => rfl⟩
theorem tX6_told {σ : zSt} {ss : Shs} {r i : Int32} (h : XS σ ss) (ho : SO ss) : zJ mX6_told [.ref 0, .int r, .int i] SH σ (fun x t => x = spTold r i ss ∧ t = σ) := by
  refine zJ_of (ls := [some (.ref 0), some (.int r), some (.int i), none]) (by decide) rfl rfl ?_
  refine za_iload_n (pc := 0) dX6_told_0 rfl ?_
  refine za_cS1i (pc := 1) (μ' := mX6_isSheet) dX6_told_1 c_X6_55 rfl ⟨rfl, rfl⟩ ⟨rfl, rfl⟩ rfl rfl rfl (tX6_isSheet) (fun x_1 t_1 h_1 => ?_)
  obtain ⟨rfl, h9⟩ := h_1
  have h9 := h9.symm
  subst h9
  by_cases h1 : 0 ≤ r ∧ r < 6
  · rw [if_pos h1]
    refine za_if_ne (pc := 4) 11 dX6_told_4 (by decide) (fun c4 => ?_) (fun c4 => ?_)
    · obtain ⟨j, hj, rfl⟩ := isSh_ix h1
      have ej : (nI j).toNatClampNeg = j := nI_clamp (by omega)
      obtain ⟨k1, k2, k3⟩ := h j hj
      have hsz := (ho j hj).1
      have hb := SHb hj
      have hol : zokv SH.length (.ref (35 + 2 * j)) = true := zokR (by omega)
      refine za_aload_n (pc := 11) dX6_told_11 rfl ?_
      refine za_getR (pc := 12) dX6_told_12 lk_X6_11 rfl rfl ?_
      refine za_iload_n (pc := 15) dX6_told_15 rfl ?_
      refine za_aald (pc := 16) dX6_told_16 rfl (vp_in_nI hj (by decide)) (SHa hj) ?_
      refine za_as3n (pc := 17) dX6_told_17 rfl ?_
      refine za_aload_n (pc := 18) dX6_told_18 rfl ?_
      refine za_cV0i (pc := 19) (μ' := mX4_isMissing) dX6_told_19 c_X6_63 hb rfl rfl ⟨rfl, rfl⟩ ⟨rfl, rfl⟩ rfl (by simp [zokS, zokI, zokR, hol]) rfl (tX4_isMissing hj) (fun x_19 t_19 h_19 => ?_)
      obtain ⟨rfl, h9⟩ := h_19
      have h9 := h9.symm
      subst h9
      by_cases hm : ss.1 j = -1
      · rw [if_pos (k1.trans hm)]
        refine za_if_eq (pc := 22) 29 dX6_told_22 (by decide) (fun c22 => ?_) (fun c22 => ?_)
        · exact absurd c22 (by decide)
        · refine za_ldc2_w (pc := 25) (10000000011) dX6_told_25 k_X6_90 ?_
          refine za_rl (pc := 28) dX6_told_28 rfl rfl rfl ?_
          rw [spTold, if_pos h1, ej, if_pos hm]
          exact ⟨rfl, rfl⟩
      · rw [if_neg (fun q => hm (k1.symm.trans q))]
        refine za_if_eq (pc := 22) 29 dX6_told_22 (by decide) (fun c22 => ?_) (fun c22 => ?_)
        · refine za_aload_n (pc := 29) dX6_told_29 rfl ?_
          refine za_iload_n (pc := 30) dX6_told_30 rfl ?_
          refine za_iconst (pc := 31) (1) dX6_told_31 (by decide) ?_
          refine za_cV2i (pc := 32) (μ' := mX4_hasPlaces) dX6_told_32 c_X6_67 hb rfl rfl ⟨rfl, rfl⟩ ⟨rfl, rfl⟩ rfl (by simp [zokS, zokI, zokR, hol]) rfl (tX4_hasPlaces hj k2 hsz) (fun x_32 t_32 h_32 => ?_)
          obtain ⟨rfl, h9⟩ := h_32
          have h9 := h9.symm
          subst h9
          have e1 : (1 : Int32).toInt = 1 := rfl
          by_cases hi : 0 ≤ i.toInt ∧ i.toInt < ss.2.1 j
          · rw [if_pos (by rw [e1]; omega)]
            refine za_if_eq (pc := 35) 48 dX6_told_35 (by decide) (fun c35 => ?_) (fun c35 => ?_)
            · exact absurd c35 (by decide)
            · obtain ⟨q, hq, rfl⟩ := vp_in_of (vp_in_iff.mpr hi) (by omega)
              refine za_aload_n (pc := 38) dX6_told_38 rfl ?_
              refine za_getR (pc := 39) dX6_told_39 lk_X6_78 hb rfl ?_
              refine za_iload_n (pc := 42) dX6_told_42 rfl ?_
              refine za_iald (pc := 43) dX6_told_43 (SHr hj) (vp_in_nI (show q < 16 by omega) (by decide)) ?_
              refine za_i2l (pc := 44) dX6_told_44 ?_
              refine za_goto (pc := 45) 51 dX6_told_45 (by decide) ?_
              refine za_rl (pc := 51) dX6_told_51 rfl rfl rfl ?_
              rw [spTold, if_pos h1, ej, if_neg hm, if_pos hi, nI_clamp (by omega), k3 q (by omega)]
              exact ⟨rfl, rfl⟩
          · rw [if_neg (by rw [e1]; omega)]
            refine za_if_eq (pc := 35) 48 dX6_told_35 (by decide) (fun c35 => ?_) (fun c35 => ?_)
            · refine za_ldc2_w (pc := 48) (10000000012) dX6_told_48 k_X6_92 ?_
              refine za_rl (pc := 51) dX6_told_51 rfl rfl rfl ?_
              rw [spTold, if_pos h1, ej, if_neg hm, if_neg hi]
              exact ⟨rfl, rfl⟩
            · exact absurd rfl c35
        · exact absurd rfl c22
    · exact absurd c4 (by decide)
  · rw [if_neg h1]
    refine za_if_ne (pc := 4) 11 dX6_told_4 (by decide) (fun c4 => ?_) (fun c4 => ?_)
    · exact absurd rfl c4
    · refine za_ldc2_w (pc := 7) (10000000001) dX6_told_7 k_X6_88 ?_
      refine za_rl (pc := 10) dX6_told_10 rfl rfl rfl ?_
      rw [spTold, if_neg h1]
      exact ⟨rfl, rfl⟩
end
section
theorem tX6_copy {σ : zSt} {ss : Shs} {r i t j n : Int32} (h : XS σ ss) (ho : SO ss) : zI mX6_copy [.ref 0, .int r, .int i, .int t, .int j, .int n] SH σ (fun x u => x = (spCopy r i t j n ss).1 ∧ XS u (spCopy r i t j n ss).2 ∧ ∀ c, c < 35 ∨ 47 ≤ c → u c = σ c) := by
  refine zI_of (ls := [some (.ref 0), some (.int r), some (.int i), some (.int t), some (.int j), some (.int n), none, none]) (by decide) rfl rfl ?_
  refine za_iload_n (pc := 0) dX6_copy_0 rfl ?_
  refine za_cS1i (pc := 1) (μ' := mX6_isSheet) dX6_copy_1 c_X6_55 rfl ⟨rfl, rfl⟩ ⟨rfl, rfl⟩ rfl rfl rfl (tX6_isSheet) (fun x_1 t_1 h_1 => ?_)
  obtain ⟨rfl, h9⟩ := h_1
  have h9 := h9.symm
  subst h9
  by_cases h1 : isSh r ∧ isSh t
  · obtain ⟨h1r, h1t⟩ := id h1
    rw [if_pos h1r]
    refine za_if_eq (pc := 4) 14 dX6_copy_4 (by decide) (fun c4 => ?_) (fun c4 => ?_)
    · exact absurd c4 (by decide)
    refine za_iload_n (pc := 7) dX6_copy_7 rfl ?_
    refine za_cS1i (pc := 8) (μ' := mX6_isSheet) dX6_copy_8 c_X6_55 rfl ⟨rfl, rfl⟩ ⟨rfl, rfl⟩ rfl rfl rfl (tX6_isSheet) (fun x_8 t_8 h_8 => ?_)
    obtain ⟨rfl, h9⟩ := h_8
    have h9 := h9.symm
    subst h9
    rw [if_pos h1t]
    refine za_if_ne (pc := 11) 16 dX6_copy_11 (by decide) (fun c11 => ?_) (fun c11 => ?_)
    · obtain ⟨a, ha, rfl⟩ := isSh_ix h1r
      obtain ⟨b, hb, rfl⟩ := isSh_ix h1t
      have ea : (nI a).toNatClampNeg = a := nI_clamp (by omega)
      have eb : (nI b).toNatClampNeg = b := nI_clamp (by omega)
      obtain ⟨k1, k2, k3⟩ := h a ha
      obtain ⟨l1, l2, l3⟩ := h b hb
      have hsa := (ho a ha).1
      have hsb := (ho b hb).1
      have hSa := SHb ha
      have hSb := SHb hb
      have oa : zokv SH.length (.ref (35 + 2 * a)) = true := zokR (by omega)
      have ob : zokv SH.length (.ref (35 + 2 * b)) = true := zokR (by omega)
      have oa' : zokv SH.length (.ref (36 + 2 * a)) = true := zokR (by omega)
      refine za_aload_n (pc := 16) dX6_copy_16 rfl ?_
      refine za_getR (pc := 17) dX6_copy_17 lk_X6_11 rfl rfl ?_
      refine za_iload_n (pc := 20) dX6_copy_20 rfl ?_
      refine za_aald (pc := 21) dX6_copy_21 rfl (vp_in_nI ha (by decide)) (SHa ha) ?_
      refine za_as6 (pc := 22) dX6_copy_22 rfl ?_
      refine za_aload_n (pc := 24) dX6_copy_24 rfl ?_
      refine za_getR (pc := 25) dX6_copy_25 lk_X6_11 rfl rfl ?_
      refine za_iload_n (pc := 28) dX6_copy_28 rfl ?_
      refine za_aald (pc := 29) dX6_copy_29 rfl (vp_in_nI hb (by decide)) (SHa hb) ?_
      refine za_as7 (pc := 30) dX6_copy_30 rfl ?_
      refine za_aload (pc := 32) dX6_copy_32 rfl ?_
      refine za_cV0i (pc := 34) (μ' := mX4_isMissing) dX6_copy_34 c_X6_63 hSa rfl rfl ⟨rfl, rfl⟩ ⟨rfl, rfl⟩ rfl (by simp [zokS, zokI, zokR, oa, ob]) rfl (tX4_isMissing ha) (fun x_34 t_34 h_34 => ?_)
      obtain ⟨rfl, h9⟩ := h_34
      have h9 := h9.symm
      subst h9
      by_cases hma : ss.1 a = -1
      · rw [if_pos (k1.trans hma)]
        refine za_if_ne (pc := 37) 48 dX6_copy_37 (by decide) (fun c37 => ?_) (fun c37 => ?_)
        · refine za_bipush (pc := 48) (-11) dX6_copy_48 (by decide) ?_
          refine za_ri (pc := 50) dX6_copy_50 rfl rfl rfl ?_
          rw [spCopy, if_pos h1, ea, eb, if_pos (Or.inl hma)]
          exact ⟨rfl, h, fun _ _ => rfl⟩
        · exact absurd c37 (by decide)
      · rw [if_neg (fun q => hma (k1.symm.trans q))]
        refine za_if_ne (pc := 37) 48 dX6_copy_37 (by decide) (fun c37 => ?_) (fun c37 => ?_)
        · exact absurd rfl c37
        refine za_aload (pc := 40) dX6_copy_40 rfl ?_
        refine za_cV0i (pc := 42) (μ' := mX4_isMissing) dX6_copy_42 c_X6_63 hSb rfl rfl ⟨rfl, rfl⟩ ⟨rfl, rfl⟩ rfl (by simp [zokS, zokI, zokR, oa, ob]) rfl (tX4_isMissing hb) (fun x_42 t_42 h_42 => ?_)
        obtain ⟨rfl, h9⟩ := h_42
        have h9 := h9.symm
        subst h9
        by_cases hmb : ss.1 b = -1
        · rw [if_pos (l1.trans hmb)]
          refine za_if_eq (pc := 45) 51 dX6_copy_45 (by decide) (fun c45 => ?_) (fun c45 => ?_)
          · exact absurd c45 (by decide)
          · refine za_bipush (pc := 48) (-11) dX6_copy_48 (by decide) ?_
            refine za_ri (pc := 50) dX6_copy_50 rfl rfl rfl ?_
            rw [spCopy, if_pos h1, ea, eb, if_pos (Or.inr hmb)]
            exact ⟨rfl, h, fun _ _ => rfl⟩
        · rw [if_neg (fun q => hmb (l1.symm.trans q))]
          have hmm : ¬ (ss.1 a = -1 ∨ ss.1 b = -1) := fun q => q.elim hma hmb
          refine za_if_eq (pc := 45) 51 dX6_copy_45 (by decide) (fun c45 => ?_) (fun c45 => ?_)
          · refine za_aload (pc := 51) dX6_copy_51 rfl ?_
            refine za_getI (pc := 53) dX6_copy_53 lk_X6_74 hSa rfl ?_
            refine za_aload (pc := 56) dX6_copy_56 rfl ?_
            refine za_getI (pc := 58) dX6_copy_58 lk_X6_74 hSb rfl ?_
            refine za_icmp_eq (pc := 61) 67 dX6_copy_61 (by decide) (fun c61 => ?_) (fun c61 => ?_)
            · rw [k1, l1] at c61
              refine za_aload (pc := 67) dX6_copy_67 rfl ?_
              refine za_iload_n (pc := 69) dX6_copy_69 rfl ?_
              refine za_iload (pc := 70) dX6_copy_70 rfl ?_
              refine za_cV2i (pc := 72) (μ' := mX4_hasPlaces) dX6_copy_72 c_X6_67 hSa rfl rfl ⟨rfl, rfl⟩ ⟨rfl, rfl⟩ rfl (by simp [zokS, zokI, zokR, oa, ob]) rfl (tX4_hasPlaces ha k2 hsa) (fun x_72 t_72 h_72 => ?_)
              obtain ⟨rfl, h9⟩ := h_72
              have h9 := h9.symm
              subst h9
              by_cases hpa : 0 ≤ i.toInt ∧ 0 ≤ n.toInt ∧ i.toInt + n.toInt ≤ ss.2.1 a
              · rw [if_pos hpa]
                refine za_if_eq (pc := 75) 90 dX6_copy_75 (by decide) (fun c75 => ?_) (fun c75 => ?_)
                · exact absurd c75 (by decide)
                refine za_aload (pc := 78) dX6_copy_78 rfl ?_
                refine za_iload (pc := 80) dX6_copy_80 rfl ?_
                refine za_iload (pc := 82) dX6_copy_82 rfl ?_
                refine za_cV2i (pc := 84) (μ' := mX4_hasPlaces) dX6_copy_84 c_X6_67 hSb rfl rfl ⟨rfl, rfl⟩ ⟨rfl, rfl⟩ rfl (by simp [zokS, zokI, zokR, oa, ob]) rfl (tX4_hasPlaces hb l2 hsb) (fun x_84 t_84 h_84 => ?_)
                obtain ⟨rfl, h9⟩ := h_84
                have h9 := h9.symm
                subst h9
                by_cases hpb : 0 ≤ j.toInt ∧ 0 ≤ n.toInt ∧ j.toInt + n.toInt ≤ ss.2.1 b
                · rw [if_pos hpb]
                  refine za_if_ne (pc := 87) 93 dX6_copy_87 (by decide) (fun c87 => ?_) (fun c87 => ?_)
                  · have ei : (i.toNatClampNeg : Int) = i.toInt := by
                      obtain ⟨q, hq, rfl⟩ := vp_in_of (x := i) (n := 17) (vp_in_iff.mpr (by omega)) (by omega)
                      rw [nI_clamp (by omega), nI_toInt (by omega)]
                    have ejj : (j.toNatClampNeg : Int) = j.toInt := by
                      obtain ⟨q, hq, rfl⟩ := vp_in_of (x := j) (n := 17) (vp_in_iff.mpr (by omega)) (by omega)
                      rw [nI_clamp (by omega), nI_toInt (by omega)]
                    have en : (n.toNatClampNeg : Int) = n.toInt := by
                      obtain ⟨q, hq, rfl⟩ := vp_in_of (x := n) (n := 17) (vp_in_iff.mpr (by omega)) (by omega)
                      rw [nI_clamp (by omega), nI_toInt (by omega)]
                    have e0 : (0 : Int32).toInt = 0 := rfl
                    refine za_aload (pc := 93) dX6_copy_93 rfl ?_
                    refine za_getR (pc := 95) dX6_copy_95 lk_X6_78 hSa rfl ?_
                    refine za_iload_n (pc := 98) dX6_copy_98 rfl ?_
                    refine za_aload (pc := 99) dX6_copy_99 rfl ?_
                    refine za_getR (pc := 101) dX6_copy_101 lk_X6_78 hSb rfl ?_
                    refine za_iload (pc := 104) dX6_copy_104 rfl ?_
                    refine za_iload (pc := 106) dX6_copy_106 rfl ?_
                    refine za_copy (pc := 108) dX6_copy_108 ac_X6_82 (SHr ha) (SHr hb) (by rw [fa_lt, e0]; omega) (by rw [fa_lt, e0]; omega) (by rw [fa_lt, e0]; omega) (by omega) (by omega) (by decide) (by decide) ?_
                    refine za_iconst (pc := 111) (0) dX6_copy_111 (by decide) ?_
                    refine za_ri (pc := 112) dX6_copy_112 rfl rfl rfl ?_
                    rw [spCopy, if_pos h1, ea, eb, if_neg hmm, if_pos c61, if_pos ⟨hpa, hpb⟩]
                    refine ⟨rfl, XS_frame h hb (fun q hq => ?_), fun c hc => zrow_n (by omega)⟩
                    unfold va_cpy
                    by_cases hq2 : j.toNatClampNeg ≤ q ∧ q < j.toNatClampNeg + n.toNatClampNeg
                    · rw [if_pos hq2, if_pos hq2, k3 _ (by omega)]
                    · rw [if_neg hq2, if_neg hq2, l3 q hq]
                  · exact absurd c87 (by decide)
                · rw [if_neg hpb]
                  refine za_if_ne (pc := 87) 93 dX6_copy_87 (by decide) (fun c87 => ?_) (fun c87 => ?_)
                  · exact absurd rfl c87
                  · refine za_bipush (pc := 90) (-12) dX6_copy_90 (by decide) ?_
                    refine za_ri (pc := 92) dX6_copy_92 rfl rfl rfl ?_
                    rw [spCopy, if_pos h1, ea, eb, if_neg hmm, if_pos c61, if_neg (fun q => hpb q.2)]
                    exact ⟨rfl, h, fun _ _ => rfl⟩
              · rw [if_neg hpa]
                refine za_if_eq (pc := 75) 90 dX6_copy_75 (by decide) (fun c75 => ?_) (fun c75 => ?_)
                · refine za_bipush (pc := 90) (-12) dX6_copy_90 (by decide) ?_
                  refine za_ri (pc := 92) dX6_copy_92 rfl rfl rfl ?_
                  rw [spCopy, if_pos h1, ea, eb, if_neg hmm, if_pos c61, if_neg (fun q => hpa q.1)]
                  exact ⟨rfl, h, fun _ _ => rfl⟩
                · exact absurd rfl c75
            · rw [k1, l1] at c61
              refine za_bipush (pc := 64) (-14) dX6_copy_64 (by decide) ?_
              refine za_ri (pc := 66) dX6_copy_66 rfl rfl rfl ?_
              rw [spCopy, if_pos h1, ea, eb, if_neg hmm, if_neg c61]
              exact ⟨rfl, h, fun _ _ => rfl⟩
          · exact absurd rfl c45
    · exact absurd c11 (by decide)
  · by_cases h1r : 0 ≤ r ∧ r < 6
    · rw [if_pos h1r]
      refine za_if_eq (pc := 4) 14 dX6_copy_4 (by decide) (fun c4 => ?_) (fun c4 => ?_)
      · exact absurd c4 (by decide)
      refine za_iload_n (pc := 7) dX6_copy_7 rfl ?_
      refine za_cS1i (pc := 8) (μ' := mX6_isSheet) dX6_copy_8 c_X6_55 rfl ⟨rfl, rfl⟩ ⟨rfl, rfl⟩ rfl rfl rfl (tX6_isSheet) (fun x_8 t_8 h_8 => ?_)
      obtain ⟨rfl, h9⟩ := h_8
      have h9 := h9.symm
      subst h9
      have h1t : ¬ (0 ≤ t ∧ t < 6) := fun q => h1 ⟨h1r, q⟩
      rw [if_neg h1t]
      refine za_if_ne (pc := 11) 16 dX6_copy_11 (by decide) (fun c11 => ?_) (fun c11 => ?_)
      · exact absurd rfl c11
      · refine za_iconst (pc := 14) (-1) dX6_copy_14 (by decide) ?_
        refine za_ri (pc := 15) dX6_copy_15 rfl rfl rfl ?_
        rw [spCopy, if_neg h1]
        exact ⟨rfl, h, fun _ _ => rfl⟩
    · rw [if_neg h1r]
      refine za_if_eq (pc := 4) 14 dX6_copy_4 (by decide) (fun c4 => ?_) (fun c4 => ?_)
      · refine za_iconst (pc := 14) (-1) dX6_copy_14 (by decide) ?_
        refine za_ri (pc := 15) dX6_copy_15 rfl rfl rfl ?_
        rw [spCopy, if_neg h1]
        exact ⟨rfl, h, fun _ _ => rfl⟩
      · exact absurd rfl c4
end
section
/-! the sheets of the reference -/
theorem lg_lt {x y : Int64} : lg_cmp x y < 0 ↔ ¬ y ≤ x := by
  rw [← lg_cmp_ge, Int32.not_le]
theorem lg_gt {x y : Int64} : 0 < lg_cmp x y ↔ y < x := by
  unfold lg_cmp
  by_cases h : x > y
  · rw [if_pos h]
    exact ⟨fun _ => h, fun _ => by decide⟩
  · rw [if_neg h]
    have h' : ¬ y < x := h
    by_cases e : x = y
    · rw [if_pos e]
      exact ⟨fun q => absurd q (by decide), fun q => absurd q h'⟩
    · rw [if_neg e]
      exact ⟨fun q => absurd q (by decide), fun q => absurd q h'⟩
theorem lg_le {x y : Int64} : lg_cmp x y ≤ 0 ↔ x ≤ y := by
  have h : lg_cmp x y ≤ 0 ↔ ¬ 0 < lg_cmp x y := by rw [Int32.not_lt]
  rw [h, lg_gt, Int64.not_lt]
theorem tX7_in {S : List zSh} {σ : zSt} {v lo hi : Int64} : zI mX7_in [.long v, .long lo, .long hi] S σ (fun x t => x = (if lo ≤ v ∧ v ≤ hi then 1 else 0) ∧ t = σ) := by
  refine zI_of (ls := [some (.long v), none, some (.long lo), none, some (.long hi), none]) (by decide) rfl rfl ?_
  refine za_lload_n (pc := 0) dX7_in_0 rfl ?_
  refine za_lload_n (pc := 1) dX7_in_1 rfl ?_
  refine za_lcmp (pc := 2) dX7_in_2 ?_
  refine za_if_lt (pc := 3) 17 dX7_in_3 (by decide) (fun c1 => ?_) (fun c1 => ?_)
  · rw [lg_lt] at c1
    refine za_iconst (pc := 17) (0) dX7_in_17 (by decide) ?_
    refine za_rz (pc := 18) dX7_in_18 rfl rfl rfl rfl ?_
    exact ⟨(if_neg (fun q => c1 q.1)).symm, rfl⟩
  · rw [lg_lt, Classical.not_not] at c1
    refine za_lload_n (pc := 6) dX7_in_6 rfl ?_
    refine za_lload (pc := 7) dX7_in_7 rfl ?_
    refine za_lcmp (pc := 9) dX7_in_9 ?_
    refine za_if_gt (pc := 10) 17 dX7_in_10 (by decide) (fun c2 => ?_) (fun c2 => ?_)
    · rw [lg_gt] at c2
      refine za_iconst (pc := 17) (0) dX7_in_17 (by decide) ?_
      refine za_rz (pc := 18) dX7_in_18 rfl rfl rfl rfl ?_
      exact ⟨(if_neg (fun q => absurd c2 (Int64.not_lt.mpr q.2))).symm, rfl⟩
    · rw [lg_gt, Int64.not_lt] at c2
      refine za_iconst (pc := 13) (1) dX7_in_13 (by decide) ?_
      refine za_goto (pc := 14) 18 dX7_in_14 (by decide) ?_
      refine za_rz (pc := 18) dX7_in_18 rfl rfl rfl rfl ?_
      exact ⟨(if_pos ⟨c1, c2⟩).symm, rfl⟩
theorem z64 (a b : Int32) {A : Int64} (h : b.toInt64 = A) : (A ≤ a.toInt64 ↔ b ≤ a) ∧ (a.toInt64 ≤ A ↔ a ≤ b) := by
  subst h
  exact ⟨fa_wide_le b a, fa_wide_le a b⟩
theorem zin_if {a lo hi : Int32} {L H : Int64} (hl : lo.toInt64 = L) (hh : hi.toInt64 = H) : (if L ≤ a.toInt64 ∧ a.toInt64 ≤ H then (1 : Int32) else 0) = if lo ≤ a ∧ a ≤ hi then 1 else 0 := by
  simp only [(z64 a lo hl).1, (z64 a hi hh).2]
theorem tX7_isSheet {S : List zSh} {σ : zSt} {r : Int32} : zI mX7_isSheet [.int r] S σ (fun x t => x = (if 0 ≤ r ∧ r < 6 then 1 else 0) ∧ t = σ) := by
  refine zI_of (ls := [some (.int r)]) (by decide) rfl rfl ?_
  refine za_iload_n (pc := 0) dX7_isSheet_0 rfl ?_
  refine za_i2l (pc := 1) dX7_isSheet_1 ?_
  refine za_lconst (pc := 2) (0) dX7_isSheet_2 (by decide) ?_
  refine za_ldc2_w (pc := 3) (5) dX7_isSheet_3 k_X7_71 ?_
  refine za_cS3i (pc := 6) (μ' := mX7_in) dX7_isSheet_6 c_X7_73 rfl ⟨rfl, rfl⟩ ⟨rfl, rfl⟩ rfl rfl rfl (tX7_in) (fun x_6 t_6 h_6 => ?_)
  obtain ⟨rfl, h9⟩ := h_6
  have h9 := h9.symm
  subst h9
  have e : (if (0 : Int64) ≤ r.toInt64 ∧ r.toInt64 ≤ 5 then (1 : Int32) else 0) = if 0 ≤ r ∧ r < 6 then 1 else 0 := by
    rw [zin_if (lo := 0) (hi := 5) (L := 0) (H := 5) rfl rfl]
    have : (0 ≤ r ∧ r ≤ 5) ↔ (0 ≤ r ∧ r < 6) := by
      simp only [fa_lt, fa_le, show (5 : Int32).toInt = 5 from rfl, show (6 : Int32).toInt = 6 from rfl]
      omega
    simp only [this]
  rw [e]
  refine za_rz (pc := 9) dX7_isSheet_9 rfl rfl rfl (by split <;> rfl) ?_
  exact ⟨rfl, rfl⟩
def FMs (t σ : zSt) : Prop := ∀ c, c ≠ 48 → c ≠ 49 → c ≠ 50 → c ≠ 58 → t c = σ c
theorem m16 {j i : Nat} (hj : j < 6) (hi : i < 16) : (16 : Int32) * nI j + nI i = nI (16 * j + i) := by
  show nI 16 * nI j + nI i = _
  rw [pk_mul, nI_add]
theorem MS_new {σ : zSt} {ss : Shs} {j m : Nat} {k : Int32} (h : MS σ ss) (hj : j < 6) {t : zSt} (h1 : t 48 = upd (σ 48) j k) (h2 : t 49 = upd (σ 49) j (nI m)) (h3 : ∀ i, i < 16 → t 50 (16 * j + i) = 0) (h4 : ∀ q i, q < 6 → q ≠ j → i < 16 → t 50 (16 * q + i) = σ 50 (16 * q + i)) : MS t (shSet ss j k m (fun _ => 0)) := by
  intro q hq
  by_cases e : q = j
  · subst e
    refine ⟨?_, ?_, fun i hi => ?_⟩
    · rw [h1, pk_us]; simp [shSet, va_up]
    · rw [h2, pk_us]; simp [shSet, va_up]
    · rw [h3 i hi]; simp [shSet, va_up]
  · obtain ⟨a1, a2, a3⟩ := h q hq
    refine ⟨?_, ?_, fun i hi => ?_⟩
    · rw [h1, pk_un e]; simp only [shSet, va_up, if_neg e]; exact a1
    · rw [h2, pk_un e]; simp only [shSet, va_up, if_neg e]; exact a2
    · rw [h4 q i hq e hi]; simp only [shSet, va_up, if_neg e]; exact a3 i hi
theorem tX7_sheet {σ : zSt} {ss : Shs} {r kd n : Int32} (h : MS σ ss) : zI mX7_sheet [.ref 47, .int r, .int kd, .int n] SH σ (fun x t => x = (spSheet r kd n ss).1 ∧ MS t (spSheet r kd n ss).2 ∧ FMs t σ) := by
  have em : (-1 : Int32).toInt = -1 := rfl
  have e0 : (0 : Int32).toInt = 0 := rfl
  have e2 : (2 : Int32).toInt = 2 := rfl
  have e16 : (16 : Int32).toInt = 16 := rfl
  refine zI_of (ls := [some (.ref 47), some (.int r), some (.int kd), some (.int n), none]) (by decide) rfl rfl ?_
  refine za_iload_n (pc := 0) dX7_sheet_0 rfl ?_
  refine za_cS1i (pc := 1) (μ' := mX7_isSheet) dX7_sheet_1 c_X7_77 rfl ⟨rfl, rfl⟩ ⟨rfl, rfl⟩ rfl rfl rfl (tX7_isSheet) (fun x_1 t_1 h_1 => ?_)
  obtain ⟨rfl, h9⟩ := h_1
  have h9 := h9.symm
  subst h9
  by_cases h1 : 0 ≤ r ∧ r < 6
  · rw [if_pos h1]
    refine za_if_eq (pc := 4) 31 dX7_sheet_4 (by decide) (fun c4 => ?_) (fun c4 => ?_)
    · exact absurd c4 (by decide)
    refine za_iload_n (pc := 7) dX7_sheet_7 rfl ?_
    refine za_i2l (pc := 8) dX7_sheet_8 ?_
    refine za_ldc2_w (pc := 9) (-1) dX7_sheet_9 k_X7_81 ?_
    refine za_ldc2_w (pc := 12) (2) dX7_sheet_12 k_X7_83 ?_
    refine za_cS3i (pc := 15) (μ' := mX7_in) dX7_sheet_15 c_X7_73 rfl ⟨rfl, rfl⟩ ⟨rfl, rfl⟩ rfl rfl rfl (tX7_in) (fun x_15 t_15 h_15 => ?_)
    obtain ⟨rfl, h9⟩ := h_15
    have h9 := h9.symm
    subst h9
    rw [zin_if (lo := -1) (hi := 2) (L := -1) (H := 2) rfl rfl]
    by_cases h2 : -1 ≤ kd ∧ kd ≤ 2
    · rw [if_pos h2]
      refine za_if_eq (pc := 18) 31 dX7_sheet_18 (by decide) (fun c18 => ?_) (fun c18 => ?_)
      · exact absurd c18 (by decide)
      have hk : isSh r ∧ (-1 ≤ kd ∧ kd ≤ 2) := ⟨h1, h2⟩
      obtain ⟨j, hj, rfl⟩ := isSh_ix h1
      have ej : (nI j).toNatClampNeg = j := nI_clamp (by omega)
      have hv6 : vp_in (nI j) 6 := vp_in_nI hj (by decide)
      -- the tail: kind and size are told, the row is cleared
      have tail : ∀ (m : Nat) (σ1 : zSt), σ1 = zup (zup σ 48 j kd) 49 j (nI m) → (spSheet (nI j) kd n ss) = (0, shSet ss j kd m (fun _ => 0)) → zA (zZ mX7_sheet (zQI SH (fun x t => x = (spSheet (nI j) kd n ss).1 ∧ MS t (spSheet (nI j) kd n ss).2 ∧ FMs t σ))) mX7_sheet none 0 0 66 [some (.ref 47), some (.int (nI j)), some (.int kd), some (.int n), none] [] SH σ1 := by
        intro m σ1 e1 esp
        refine za_iconst (pc := 66) (0) dX7_sheet_66 (by decide) ?_
        refine za_is4 (pc := 67) dX7_sheet_67 rfl ?_
        have loop : ∀ (q i : Nat) (σ2 : zSt), i + q = 16 → (∀ c, c ≠ 50 → σ2 c = σ1 c) → (∀ u, u < i → σ2 50 (16 * j + u) = 0) → (∀ u, (u < 16 * j ∨ 16 * j + 16 ≤ u) → σ2 50 u = σ 50 u) → zA (zZ mX7_sheet (zQI SH (fun x t => x = (spSheet (nI j) kd n ss).1 ∧ MS t (spSheet (nI j) kd n ss).2 ∧ FMs t σ))) mX7_sheet none 0 0 69 [some (.ref 47), some (.int (nI j)), some (.int kd), some (.int n), some (.int (nI i))] [] SH σ2 := by
          intro q
          induction q with
          | zero =>
            intro i σ2 hi f1 f2 f3
            refine za_iload (pc := 69) dX7_sheet_69 rfl ?_
            refine za_bipush (pc := 71) (16) dX7_sheet_71 (by decide) ?_
            refine za_icmp_ge (pc := 73) 95 dX7_sheet_73 (by decide) (fun c => ?_) (fun c => ?_)
            · refine za_iconst (pc := 95) (0) dX7_sheet_95 (by decide) ?_
              refine za_ri (pc := 96) dX7_sheet_96 rfl rfl rfl ?_
              rw [esp]
              refine ⟨rfl, MS_new h hj (by rw [f1 48 (by decide), e1, zup_n (by decide), zup_s]) (by rw [f1 49 (by decide), e1, zup_s, zup_n (by decide)]) (fun u hu => f2 u (by omega)) (fun a u ha hne hu => f3 _ (by omega)), fun c h8 h9 h5 _ => ?_⟩
              rw [f1 c h5, e1, zup_n h9, zup_n h8]
            · exact absurd (nI_le (a := 16) (b := i) (by omega) (by omega)) c
          | succ q ih =>
            intro i σ2 hi f1 f2 f3
            refine za_iload (pc := 69) dX7_sheet_69 rfl ?_
            refine za_bipush (pc := 71) (16) dX7_sheet_71 (by decide) ?_
            refine za_icmp_ge (pc := 73) 95 dX7_sheet_73 (by decide) (fun c => ?_) (fun c => ?_)
            · exact absurd c (nI_ge (a := i) (b := 16) (by omega) (by omega))
            · refine za_aload_n (pc := 76) dX7_sheet_76 rfl ?_
              refine za_getR (pc := 77) dX7_sheet_77 lk_X7_16 rfl rfl ?_
              refine za_bipush (pc := 80) (16) dX7_sheet_80 (by decide) ?_
              refine za_iload_n (pc := 82) dX7_sheet_82 rfl ?_
              refine za_imul (pc := 83) dX7_sheet_83 ?_
              refine za_iload (pc := 84) dX7_sheet_84 rfl ?_
              refine za_iadd (pc := 86) dX7_sheet_86 ?_
              refine za_iconst (pc := 87) (0) dX7_sheet_87 (by decide) ?_
              rw [m16 hj (by omega)]
              refine za_iast (pc := 88) dX7_sheet_88 rfl (vp_in_nI (show 16 * j + i < 96 by omega) (by decide)) ?_
              refine za_ii4 (pc := 89) (1) dX7_sheet_89 (by decide) rfl ?_
              refine za_goto (pc := 92) 69 dX7_sheet_92 (by decide) ?_
              rw [nI_1, nI_clamp (by omega)]
              refine ih (i + 1) _ (by omega) (fun c hc => by rw [zup_n hc]; exact f1 c hc) (fun u hu => ?_) (fun u hu => by rw [zup_b (by omega)]; exact f3 u hu)
              by_cases eu : u = i
              · rw [eu, zup_a]
              · rw [zup_b (by omega)]
                exact f2 u (by omega)
        refine loop 16 0 σ1 (by omega) (fun _ _ => rfl) (fun u hu => absurd hu (by omega)) (fun u _ => ?_)
        rw [e1, zup_n (by decide), zup_n (by decide)]
      refine za_iload_n (pc := 21) dX7_sheet_21 rfl ?_
      refine za_if_lt (pc := 22) 33 dX7_sheet_22 (by decide) (fun c22 => ?_) (fun c22 => ?_)
      · -- kd is -1
        have hkd : kd = -1 := by rw [fa_eq]; rw [fa_lt] at c22; have := h2.1; rw [fa_le] at this; omega
        refine za_iload_n (pc := 33) dX7_sheet_33 rfl ?_
        refine za_if_lt (pc := 34) 44 dX7_sheet_34 (by decide) (fun c34 => ?_) (fun c34 => ?_)
        · refine za_aload_n (pc := 44) dX7_sheet_44 rfl ?_
          refine za_getR (pc := 45) dX7_sheet_45 lk_X7_7 rfl rfl ?_
          refine za_iload_n (pc := 48) dX7_sheet_48 rfl ?_
          refine za_iload_n (pc := 49) dX7_sheet_49 rfl ?_
          refine za_iast (pc := 50) dX7_sheet_50 rfl hv6 ?_
          refine za_aload_n (pc := 51) dX7_sheet_51 rfl ?_
          refine za_getR (pc := 52) dX7_sheet_52 lk_X7_13 rfl rfl ?_
          refine za_iload_n (pc := 55) dX7_sheet_55 rfl ?_
          refine za_iload_n (pc := 56) dX7_sheet_56 rfl ?_
          refine za_if_ge (pc := 57) 64 dX7_sheet_57 (by decide) (fun c57 => ?_) (fun c57 => ?_)
          · exact absurd c57 (by rw [fa_le]; rw [fa_lt] at c22; omega)
          · refine za_iconst (pc := 60) (0) dX7_sheet_60 (by decide) ?_
            refine za_goto (pc := 61) 65 dX7_sheet_61 (by decide) ?_
            refine za_iast (pc := 65) dX7_sheet_65 rfl hv6 ?_
            rw [ej]
            refine tail 0 _ rfl ?_
            rw [spSheet, if_pos hk, if_pos hkd, ej, hkd]
        · exact absurd c22 c34
      · have hkn : ¬ kd = -1 := fun q => c22 (by rw [q]; decide)
        refine za_iload_n (pc := 25) dX7_sheet_25 rfl ?_
        refine za_bipush (pc := 26) (16) dX7_sheet_26 (by decide) ?_
        refine za_icmp_le (pc := 28) 33 dX7_sheet_28 (by decide) (fun c28 => ?_) (fun c28 => ?_)
        · refine za_iload_n (pc := 33) dX7_sheet_33 rfl ?_
          refine za_if_lt (pc := 34) 44 dX7_sheet_34 (by decide) (fun c34 => ?_) (fun c34 => ?_)
          · exact absurd c34 c22
          refine za_iload_n (pc := 37) dX7_sheet_37 rfl ?_
          refine za_if_ge (pc := 38) 44 dX7_sheet_38 (by decide) (fun c38 => ?_) (fun c38 => ?_)
          · obtain ⟨m, hm, rfl⟩ := zix (N := 17) c38 (by rw [fa_lt]; rw [fa_le] at c28; have e2 : (nI 17).toInt = 17 := rfl; omega) (by decide)
            refine za_aload_n (pc := 44) dX7_sheet_44 rfl ?_
            refine za_getR (pc := 45) dX7_sheet_45 lk_X7_7 rfl rfl ?_
            refine za_iload_n (pc := 48) dX7_sheet_48 rfl ?_
            refine za_iload_n (pc := 49) dX7_sheet_49 rfl ?_
            refine za_iast (pc := 50) dX7_sheet_50 rfl hv6 ?_
            refine za_aload_n (pc := 51) dX7_sheet_51 rfl ?_
            refine za_getR (pc := 52) dX7_sheet_52 lk_X7_13 rfl rfl ?_
            refine za_iload_n (pc := 55) dX7_sheet_55 rfl ?_
            refine za_iload_n (pc := 56) dX7_sheet_56 rfl ?_
            refine za_if_ge (pc := 57) 64 dX7_sheet_57 (by decide) (fun c57 => ?_) (fun c57 => ?_)
            · refine za_iload_n (pc := 64) dX7_sheet_64 rfl ?_
              refine za_iast (pc := 65) dX7_sheet_65 rfl hv6 ?_
              rw [ej]
              refine tail m _ rfl ?_
              rw [spSheet, if_pos hk, if_neg hkn, if_neg (by rw [fa_lt]; rw [fa_le] at c28; omega), if_neg (nI_pos (by omega)), ej, nI_clamp (by omega)]
            · exact absurd c22 (fun q => c57 (by rw [fa_le]; rw [fa_lt] at q; omega))
          · refine za_bipush (pc := 41) (-13) dX7_sheet_41 (by decide) ?_
            refine za_ri (pc := 43) dX7_sheet_43 rfl rfl rfl ?_
            rw [spSheet, if_pos hk, if_neg hkn, if_neg (by rw [fa_lt]; rw [fa_le] at c28; omega), if_pos (by rw [fa_lt]; rw [fa_le] at c38; omega)]
            exact ⟨rfl, h, fun _ _ _ _ _ => rfl⟩
        · refine za_iconst (pc := 31) (-1) dX7_sheet_31 (by decide) ?_
          refine za_ri (pc := 32) dX7_sheet_32 rfl rfl rfl ?_
          rw [spSheet, if_pos hk, if_neg hkn, if_pos (by rw [fa_lt]; rw [fa_le] at c28; omega)]
          exact ⟨rfl, h, fun _ _ _ _ _ => rfl⟩
    · rw [if_neg h2]
      refine za_if_eq (pc := 18) 31 dX7_sheet_18 (by decide) (fun c18 => ?_) (fun c18 => ?_)
      · refine za_iconst (pc := 31) (-1) dX7_sheet_31 (by decide) ?_
        refine za_ri (pc := 32) dX7_sheet_32 rfl rfl rfl ?_
        rw [spSheet, if_neg (fun q => h2 q.2)]
        exact ⟨rfl, h, fun _ _ _ _ _ => rfl⟩
      · exact absurd rfl c18
  · rw [if_neg h1]
    refine za_if_eq (pc := 4) 31 dX7_sheet_4 (by decide) (fun c4 => ?_) (fun c4 => ?_)
    · refine za_iconst (pc := 31) (-1) dX7_sheet_31 (by decide) ?_
      refine za_ri (pc := 32) dX7_sheet_32 rfl rfl rfl ?_
      rw [spSheet, if_neg (fun q => h1 q.1)]
      exact ⟨rfl, h, fun _ _ _ _ _ => rfl⟩
    · exact absurd rfl c4
end
section
def spAg (r i : Int32) (ss : Shs) : Int32 :=
  if isSh r then
    if ss.1 r.toNatClampNeg = -1 then -11
    else if 0 ≤ i.toInt ∧ i.toInt < ss.2.1 r.toNatClampNeg then 0
    else -12
  else -1
theorem sk_neg {ss : Shs} {j : Nat} (ho : SO ss) (hj : j < 6) : (ss.1 j < 0) ↔ ss.1 j = -1 := by
  rcases (ho j hj).2 with h | h | h | h <;> rw [h] <;> decide
theorem tX7_against {σ : zSt} {ss : Shs} {r i : Int32} (h : MS σ ss) (ho : SO ss) : zI mX7_against [.ref 47, .int r, .int i] SH σ (fun x t => x = spAg r i ss ∧ t = σ) := by
  have e0 : (0 : Int32).toInt = 0 := rfl
  refine zI_of (ls := [some (.ref 47), some (.int r), some (.int i)]) (by decide) rfl rfl ?_
  refine za_iload_n (pc := 0) dX7_against_0 rfl ?_
  refine za_cS1i (pc := 1) (μ' := mX7_isSheet) dX7_against_1 c_X7_77 rfl ⟨rfl, rfl⟩ ⟨rfl, rfl⟩ rfl rfl rfl (tX7_isSheet) (fun x_1 t_1 h_1 => ?_)
  obtain ⟨rfl, h9⟩ := h_1
  have h9 := h9.symm
  subst h9
  by_cases h1 : 0 ≤ r ∧ r < 6
  · rw [if_pos h1]
    refine za_if_ne (pc := 4) 11 dX7_against_4 (by decide) (fun c4 => ?_) (fun c4 => ?_)
    · obtain ⟨j, hj, rfl⟩ := isSh_ix h1
      have ej : (nI j).toNatClampNeg = j := nI_clamp (by omega)
      have hv6 : vp_in (nI j) 6 := vp_in_nI hj (by decide)
      obtain ⟨k1, k2, k3⟩ := h j hj
      have hsz := (ho j hj).1
      refine za_aload_n (pc := 11) dX7_against_11 rfl ?_
      refine za_getR (pc := 12) dX7_against_12 lk_X7_7 rfl rfl ?_
      refine za_iload_n (pc := 15) dX7_against_15 rfl ?_
      refine za_iald (pc := 16) dX7_against_16 rfl hv6 ?_
      rw [ej, k1]
      refine za_if_ge (pc := 17) 25 dX7_against_17 (by decide) (fun c17 => ?_) (fun c17 => ?_)
      · have hm : ¬ ss.1 j = -1 := fun q => absurd c17 (by rw [q]; decide)
        refine za_iload_n (pc := 25) dX7_against_25 rfl ?_
        refine za_i2l (pc := 26) dX7_against_26 ?_
        refine za_lconst (pc := 27) (0) dX7_against_27 (by decide) ?_
        refine za_aload_n (pc := 28) dX7_against_28 rfl ?_
        refine za_getR (pc := 29) dX7_against_29 lk_X7_13 rfl rfl ?_
        refine za_iload_n (pc := 32) dX7_against_32 rfl ?_
        refine za_iald (pc := 33) dX7_against_33 rfl hv6 ?_
        refine za_iconst (pc := 34) (1) dX7_against_34 (by decide) ?_
        refine za_isub (pc := 35) dX7_against_35 ?_
        refine za_i2l (pc := 36) dX7_against_36 ?_
        rw [ej, k2]
        refine za_cS3i (pc := 37) (μ' := mX7_in) dX7_against_37 c_X7_73 rfl ⟨rfl, rfl⟩ ⟨rfl, rfl⟩ rfl rfl rfl (tX7_in) (fun x_37 t_37 h_37 => ?_)
        obtain ⟨rfl, h9⟩ := h_37
        have h9 := h9.symm
        subst h9
        have es : (nI (ss.2.1 j) - 1).toInt = (ss.2.1 j : Int) - 1 := by
          rw [fb_subI (by rw [nI_toInt (by omega)]; show _ ≤ _ - (1 : Int); omega) (by rw [nI_toInt (by omega)]; show _ - (1 : Int) < _; omega), nI_toInt (by omega)]
          rfl
        have e : (if (0 : Int64) ≤ i.toInt64 ∧ i.toInt64 ≤ (nI (ss.2.1 j) - 1).toInt64 then (1 : Int32) else 0) = if 0 ≤ i.toInt ∧ i.toInt < ss.2.1 j then 1 else 0 := by
          rw [zin_if (lo := 0) (hi := nI (ss.2.1 j) - 1) (L := 0) rfl rfl]
          have : (0 ≤ i ∧ i ≤ nI (ss.2.1 j) - 1) ↔ (0 ≤ i.toInt ∧ i.toInt < ss.2.1 j) := by
            rw [fa_le, fa_le, es, e0]
            omega
          simp only [this]
        rw [e]
        by_cases hi : 0 ≤ i.toInt ∧ i.toInt < ss.2.1 j
        · rw [if_pos hi]
          refine za_if_ne (pc := 40) 48 dX7_against_40 (by decide) (fun c40 => ?_) (fun c40 => ?_)
          · refine za_iconst (pc := 48) (0) dX7_against_48 (by decide) ?_
            refine za_ri (pc := 49) dX7_against_49 rfl rfl rfl ?_
            rw [spAg, if_pos h1, ej, if_neg hm, if_pos hi]
            exact ⟨rfl, rfl⟩
          · exact absurd c40 (by decide)
        · rw [if_neg hi]
          refine za_if_ne (pc := 40) 48 dX7_against_40 (by decide) (fun c40 => ?_) (fun c40 => ?_)
          · exact absurd rfl c40
          · refine za_bipush (pc := 43) (-12) dX7_against_43 (by decide) ?_
            refine za_goto (pc := 45) 49 dX7_against_45 (by decide) ?_
            refine za_ri (pc := 49) dX7_against_49 rfl rfl rfl ?_
            rw [spAg, if_pos h1, ej, if_neg hm, if_neg hi]
            exact ⟨rfl, rfl⟩
      · have hm : ss.1 j = -1 := (sk_neg ho hj).mp (by rw [fa_lt]; rw [fa_le] at c17; omega)
        refine za_bipush (pc := 20) (-11) dX7_against_20 (by decide) ?_
        refine za_goto (pc := 22) 49 dX7_against_22 (by decide) ?_
        refine za_ri (pc := 49) dX7_against_49 rfl rfl rfl ?_
        rw [spAg, if_pos h1, ej, if_pos hm]
        exact ⟨rfl, rfl⟩
    · exact absurd c4 (by decide)
  · rw [if_neg h1]
    refine za_if_ne (pc := 4) 11 dX7_against_4 (by decide) (fun c4 => ?_) (fun c4 => ?_)
    · exact absurd rfl c4
    · refine za_iconst (pc := 7) (-1) dX7_against_7 (by decide) ?_
      refine za_goto (pc := 8) 49 dX7_against_8 (by decide) ?_
      refine za_ri (pc := 49) dX7_against_49 rfl rfl rfl ?_
      rw [spAg, if_neg h1]
      exact ⟨rfl, rfl⟩
theorem spAg_0 {r i : Int32} {ss : Shs} (ho : SO ss) (h : spAg r i ss = 0) : ∃ j q, j < 6 ∧ r = nI j ∧ q < ss.2.1 j ∧ q < 16 ∧ i = nI q ∧ ¬ ss.1 j = -1 := by
  unfold spAg at h
  by_cases h1 : isSh r
  · rw [if_pos h1] at h
    obtain ⟨j, hj, rfl⟩ := isSh_ix h1
    rw [nI_clamp (by omega)] at h
    by_cases hm : ss.1 j = -1
    · rw [if_pos hm] at h
      exact absurd h (by decide)
    · rw [if_neg hm] at h
      by_cases hi : 0 ≤ i.toInt ∧ i.toInt < ss.2.1 j
      · have := (ho j hj).1
        obtain ⟨q, hq, rfl⟩ := vp_in_of (vp_in_iff.mpr hi) (by omega)
        exact ⟨j, q, hj, rfl, hq, by omega, rfl, hm⟩
      · rw [if_neg hi] at h
        exact absurd h (by decide)
  · rw [if_neg h1] at h
    exact absurd h (by decide)
theorem spPut_1 {r i v : Int32} {ss : Shs} : (spPut r i v ss).1 = spAg r i ss := by
  unfold spPut spAg
  split
  · split
    · rfl
    · split <;> rfl
  · rfl
theorem spPut_n {r i v : Int32} {ss : Shs} (h : ¬ spAg r i ss = 0) : (spPut r i v ss).2 = ss := by
  unfold spPut
  unfold spAg at h
  split
  · rename_i h1
    rw [if_pos h1] at h
    split
    · rfl
    · rename_i h2
      rw [if_neg h2] at h
      split
      · rename_i h3
        rw [if_pos h3] at h
        exact absurd rfl h
      · rfl
  · rfl
theorem spPut_2 {j q : Nat} {v : Int32} {ss : Shs} (hj : j < 6) (hq : q < ss.2.1 j) (hq16 : q < 16) (hm : ¬ ss.1 j = -1) : (spPut (nI j) (nI q) v ss).2 = (ss.1, ss.2.1, va_up ss.2.2 j (upd (ss.2.2 j) q (cutv (ss.1 j) v))) := by
  unfold spPut
  rw [if_pos (isSh_nI hj), nI_clamp (by omega), if_neg hm, if_pos ⟨by rw [nI_toInt (by omega)]; omega, by rw [nI_toInt (by omega)]; omega⟩, nI_clamp (by omega)]
theorem MS_row {σ t : zSt} {ss : Shs} {j : Nat} {f : Nat → Int32} (h : MS σ ss) (hj : j < 6) (h1 : t 48 = σ 48) (h2 : t 49 = σ 49) (h3 : ∀ i, i < 16 → t 50 (16 * j + i) = f i) (h4 : ∀ q i, q < 6 → q ≠ j → i < 16 → t 50 (16 * q + i) = σ 50 (16 * q + i)) : MS t (ss.1, ss.2.1, va_up ss.2.2 j f) := by
  intro q hq
  obtain ⟨a1, a2, a3⟩ := h q hq
  refine ⟨?_, ?_, fun i hi => ?_⟩
  · rw [h1]; exact a1
  · rw [h2]; exact a2
  · by_cases e : q = j
    · subst e
      rw [h3 i hi]; simp [va_up]
    · rw [h4 q i hq e hi]; simp only [va_up, if_neg e]; exact a3 i hi
theorem tX7_put {σ : zSt} {ss : Shs} {r i v : Int32} (h : MS σ ss) (ho : SO ss) : zI mX7_put [.ref 47, .int r, .int i, .int v] SH σ (fun x t => x = (spPut r i v ss).1 ∧ MS t (spPut r i v ss).2 ∧ FMs t σ) := by
  refine zI_of (ls := [some (.ref 47), some (.int r), some (.int i), some (.int v), none]) (by decide) rfl rfl ?_
  refine za_aload_n (pc := 0) dX7_put_0 rfl ?_
  refine za_iload_n (pc := 1) dX7_put_1 rfl ?_
  refine za_iload_n (pc := 2) dX7_put_2 rfl ?_
  refine za_cV2i (pc := 3) (μ' := mX7_against) dX7_put_3 c_X7_85 rfl rfl rfl ⟨rfl, rfl⟩ ⟨rfl, rfl⟩ rfl rfl rfl (tX7_against h ho) (fun x_3 t_3 h_3 => ?_)
  obtain ⟨rfl, h9⟩ := h_3
  have h9 := h9.symm
  subst h9
  refine za_is4 (pc := 6) dX7_put_6 rfl ?_
  refine za_iload (pc := 8) dX7_put_8 rfl ?_
  rw [spPut_1]
  refine za_if_ne (pc := 10) 54 dX7_put_10 (by decide) (fun c10 => ?_) (fun c10 => ?_)
  · refine za_iload (pc := 54) dX7_put_54 rfl ?_
    refine za_ri (pc := 56) dX7_put_56 rfl rfl rfl ?_
    rw [spPut_n c10]
    exact ⟨rfl, h, fun _ _ _ _ _ => rfl⟩
  · obtain ⟨j, q, hj, rfl, hq, hq16, rfl, hm⟩ := spAg_0 ho c10
    have ej : (nI j).toNatClampNeg = j := nI_clamp (by omega)
    have hv6 : vp_in (nI j) 6 := vp_in_nI hj (by decide)
    obtain ⟨k1, k2, k3⟩ := h j hj
    have fin : ∀ x : Int32, x = cutv (ss.1 j) v → zA (zZ mX7_put (zQI SH (fun x t => x = spAg (nI j) (nI q) ss ∧ MS t (spPut (nI j) (nI q) v ss).2 ∧ FMs t σ))) mX7_put none 0 0 53 [some (.ref 47), some (.int (nI j)), some (.int (nI q)), some (.int v), some (.int (spAg (nI j) (nI q) ss))] [.int x, .int (nI (16 * j + q)), .ref 50] SH σ := by
      intro x ex
      refine za_iast (pc := 53) dX7_put_53 rfl (vp_in_nI (show 16 * j + q < 96 by omega) (by decide)) ?_
      refine za_iload (pc := 54) dX7_put_54 rfl ?_
      refine za_ri (pc := 56) dX7_put_56 rfl rfl rfl ?_
      rw [nI_clamp (by omega), spPut_2 hj hq hq16 hm, ← ex]
      refine ⟨rfl, MS_row h hj (zup_n (by decide)) (zup_n (by decide)) (fun i hi => ?_) (fun a i ha hne hi => zup_b (by omega)), fun c _ _ h5 _ => zup_n h5⟩
      by_cases e : i = q
      · rw [e, zup_a, pk_us]
      · rw [zup_b (by omega), pk_un e]; exact k3 i hi
    refine za_aload_n (pc := 13) dX7_put_13 rfl ?_
    refine za_getR (pc := 14) dX7_put_14 lk_X7_16 rfl rfl ?_
    refine za_bipush (pc := 17) (16) dX7_put_17 (by decide) ?_
    refine za_iload_n (pc := 19) dX7_put_19 rfl ?_
    refine za_imul (pc := 20) dX7_put_20 ?_
    refine za_iload_n (pc := 21) dX7_put_21 rfl ?_
    refine za_iadd (pc := 22) dX7_put_22 ?_
    rw [m16 hj hq16]
    refine za_aload_n (pc := 23) dX7_put_23 rfl ?_
    refine za_getR (pc := 24) dX7_put_24 lk_X7_7 rfl rfl ?_
    refine za_iload_n (pc := 27) dX7_put_27 rfl ?_
    refine za_iald (pc := 28) dX7_put_28 rfl hv6 ?_
    rw [ej, k1]
    refine za_if_ne (pc := 29) 37 dX7_put_29 (by decide) (fun c29 => ?_) (fun c29 => ?_)
    · refine za_aload_n (pc := 37) dX7_put_37 rfl ?_
      refine za_getR (pc := 38) dX7_put_38 lk_X7_7 rfl rfl ?_
      refine za_iload_n (pc := 41) dX7_put_41 rfl ?_
      refine za_iald (pc := 42) dX7_put_42 rfl hv6 ?_
      refine za_iconst (pc := 43) (1) dX7_put_43 (by decide) ?_
      rw [ej, k1]
      refine za_icmp_ne (pc := 44) 52 dX7_put_44 (by decide) (fun c44 => ?_) (fun c44 => ?_)
      · refine za_iload_n (pc := 52) dX7_put_52 rfl ?_
        exact fin _ (by rw [cutv, if_neg c29, if_neg c44])
      · refine za_iload_n (pc := 47) dX7_put_47 rfl ?_
        refine za_i2s (pc := 48) dX7_put_48 ?_
        refine za_goto (pc := 49) 53 dX7_put_49 (by decide) ?_
        exact fin _ (by rw [cutv, if_neg c29, if_pos c44])
    · refine za_iload_n (pc := 32) dX7_put_32 rfl ?_
      refine za_i2b (pc := 33) dX7_put_33 ?_
      refine za_goto (pc := 34) 53 dX7_put_34 (by decide) ?_
      exact fin _ (by rw [cutv, if_pos c29])
theorem tX7_told {σ : zSt} {ss : Shs} {r i : Int32} (h : MS σ ss) (ho : SO ss) : zJ mX7_told [.ref 47, .int r, .int i] SH σ (fun x t => x = spTold r i ss ∧ t = σ) := by
  refine zJ_of (ls := [some (.ref 47), some (.int r), some (.int i), none]) (by decide) rfl rfl ?_
  refine za_aload_n (pc := 0) dX7_told_0 rfl ?_
  refine za_iload_n (pc := 1) dX7_told_1 rfl ?_
  refine za_iload_n (pc := 2) dX7_told_2 rfl ?_
  refine za_cV2i (pc := 3) (μ' := mX7_against) dX7_told_3 c_X7_85 rfl rfl rfl ⟨rfl, rfl⟩ ⟨rfl, rfl⟩ rfl rfl rfl (tX7_against h ho) (fun x_3 t_3 h_3 => ?_)
  obtain ⟨rfl, h9⟩ := h_3
  have h9 := h9.symm
  subst h9
  refine za_is3n (pc := 6) dX7_told_6 rfl ?_
  refine za_iload_n (pc := 7) dX7_told_7 rfl ?_
  refine za_if_ne (pc := 8) 26 dX7_told_8 (by decide) (fun c8 => ?_) (fun c8 => ?_)
  · refine za_ldc2_w (pc := 26) (10000000000) dX7_told_26 k_X7_89 ?_
    refine za_iload_n (pc := 29) dX7_told_29 rfl ?_
    refine za_i2l (pc := 30) dX7_told_30 ?_
    refine za_lsub (pc := 31) dX7_told_31 ?_
    refine za_rl (pc := 32) dX7_told_32 rfl rfl rfl ?_
    refine ⟨?_, rfl⟩
    unfold spAg at c8 ⊢
    unfold spTold
    split
    · rename_i h1
      rw [if_pos h1] at c8
      split
      · rfl
      · rename_i h2
        rw [if_neg h2] at c8
        split
        · rename_i h3
          rw [if_pos h3] at c8
          exact absurd rfl c8
        · rfl
    · rfl
  · obtain ⟨j, q, hj, rfl, hq, hq16, rfl, hm⟩ := spAg_0 ho c8
    refine za_aload_n (pc := 11) dX7_told_11 rfl ?_
    refine za_getR (pc := 12) dX7_told_12 lk_X7_16 rfl rfl ?_
    refine za_bipush (pc := 15) (16) dX7_told_15 (by decide) ?_
    refine za_iload_n (pc := 17) dX7_told_17 rfl ?_
    refine za_imul (pc := 18) dX7_told_18 ?_
    refine za_iload_n (pc := 19) dX7_told_19 rfl ?_
    refine za_iadd (pc := 20) dX7_told_20 ?_
    rw [m16 hj hq16]
    refine za_iald (pc := 21) dX7_told_21 rfl (vp_in_nI (show 16 * j + q < 96 by omega) (by decide)) ?_
    refine za_i2l (pc := 22) dX7_told_22 ?_
    refine za_goto (pc := 23) 32 dX7_told_23 (by decide) ?_
    refine za_rl (pc := 32) dX7_told_32 rfl rfl rfl ?_
    refine ⟨?_, rfl⟩
    rw [nI_clamp (by omega), (h j hj).2.2 q hq16, spTold, if_pos (isSh_nI hj), nI_clamp (by omega), if_neg hm, if_pos ⟨by rw [nI_toInt (by omega)]; omega, by rw [nI_toInt (by omega)]; omega⟩, nI_clamp (by omega)]
end
section
theorem z64add (a b c : Int32) : (c.toInt64 < a.toInt64 + b.toInt64) ↔ c.toInt < a.toInt + b.toInt := by
  have ha := fb_rng a
  have hb := fb_rng b
  rw [Int64.lt_iff_toInt_lt, Int64.toInt_add, Int32.toInt_toInt64, Int32.toInt_toInt64, Int32.toInt_toInt64]
  have e : (a.toInt + b.toInt).bmod (2 ^ 64) = a.toInt + b.toInt := by rw [Int.bmod_def]; split <;> omega
  rw [e]
theorem m16b {j a i : Nat} (hj : j < 6) (ha : a ≤ 16) (hi : i ≤ 16) : (16 : Int32) * nI j + nI a + nI i = nI (16 * j + (a + i)) := by
  show nI 16 * nI j + nI a + nI i = _
  rw [pk_mul, nI_add, nI_add, Nat.add_assoc]
theorem tX7_copy {σ : zSt} {ss : Shs} {r i t j n : Int32} (h : MS σ ss) (ho : SO ss) : zI mX7_copy [.ref 47, .int r, .int i, .int t, .int j, .int n] SH σ (fun x u => x = (spCopy r i t j n ss).1 ∧ MS u (spCopy r i t j n ss).2 ∧ FMs u σ) := by
  have e0 : (0 : Int32).toInt = 0 := rfl
  refine zI_of (ls := [some (.ref 47), some (.int r), some (.int i), some (.int t), some (.int j), some (.int n), none]) (by decide) rfl rfl ?_
  refine za_iload_n (pc := 0) dX7_copy_0 rfl ?_
  refine za_cS1i (pc := 1) (μ' := mX7_isSheet) dX7_copy_1 c_X7_77 rfl ⟨rfl, rfl⟩ ⟨rfl, rfl⟩ rfl rfl rfl (tX7_isSheet) (fun x_1 t_1 h_1 => ?_)
  obtain ⟨rfl, h9⟩ := h_1
  have h9 := h9.symm
  subst h9
  by_cases h1 : isSh r ∧ isSh t
  · obtain ⟨h1r, h1t⟩ := id h1
    rw [if_pos h1r]
    refine za_if_eq (pc := 4) 14 dX7_copy_4 (by decide) (fun c4 => ?_) (fun c4 => ?_)
    · exact absurd c4 (by decide)
    refine za_iload_n (pc := 7) dX7_copy_7 rfl ?_
    refine za_cS1i (pc := 8) (μ' := mX7_isSheet) dX7_copy_8 c_X7_77 rfl ⟨rfl, rfl⟩ ⟨rfl, rfl⟩ rfl rfl rfl (tX7_isSheet) (fun x_8 t_8 h_8 => ?_)
    obtain ⟨rfl, h9⟩ := h_8
    have h9 := h9.symm
    subst h9
    rw [if_pos h1t]
    refine za_if_ne (pc := 11) 16 dX7_copy_11 (by decide) (fun c11 => ?_) (fun c11 => ?_)
    · obtain ⟨a, ha, rfl⟩ := isSh_ix h1r
      obtain ⟨b, hb, rfl⟩ := isSh_ix h1t
      have ea : (nI a).toNatClampNeg = a := nI_clamp (by omega)
      have eb : (nI b).toNatClampNeg = b := nI_clamp (by omega)
      have va : vp_in (nI a) 6 := vp_in_nI ha (by decide)
      have vb : vp_in (nI b) 6 := vp_in_nI hb (by decide)
      obtain ⟨k1, k2, k3⟩ := h a ha
      obtain ⟨l1, l2, l3⟩ := h b hb
      have hsa := (ho a ha).1
      have hsb := (ho b hb).1
      refine za_aload_n (pc := 16) dX7_copy_16 rfl ?_
      refine za_getR (pc := 17) dX7_copy_17 lk_X7_7 rfl rfl ?_
      refine za_iload_n (pc := 20) dX7_copy_20 rfl ?_
      refine za_iald (pc := 21) dX7_copy_21 rfl va ?_
      rw [ea, k1]
      refine za_if_lt (pc := 22) 34 dX7_copy_22 (by decide) (fun c22 => ?_) (fun c22 => ?_)
      · refine za_bipush (pc := 34) (-11) dX7_copy_34 (by decide) ?_
        refine za_ri (pc := 36) dX7_copy_36 rfl rfl rfl ?_
        rw [spCopy, if_pos h1, ea, eb, if_pos (Or.inl ((sk_neg ho ha).mp c22))]
        exact ⟨rfl, h, fun _ _ _ _ _ => rfl⟩
      have hma : ¬ ss.1 a = -1 := fun q => c22 ((sk_neg ho ha).mpr q)
      refine za_aload_n (pc := 25) dX7_copy_25 rfl ?_
      refine za_getR (pc := 26) dX7_copy_26 lk_X7_7 rfl rfl ?_
      refine za_iload_n (pc := 29) dX7_copy_29 rfl ?_
      refine za_iald (pc := 30) dX7_copy_30 rfl vb ?_
      rw [eb, l1]
      refine za_if_ge (pc := 31) 37 dX7_copy_31 (by decide) (fun c31 => ?_) (fun c31 => ?_)
      · have hmb : ¬ ss.1 b = -1 := fun q => absurd c31 (by rw [q]; decide)
        have hmm : ¬ (ss.1 a = -1 ∨ ss.1 b = -1) := fun q => q.elim hma hmb
        refine za_aload_n (pc := 37) dX7_copy_37 rfl ?_
        refine za_getR (pc := 38) dX7_copy_38 lk_X7_7 rfl rfl ?_
        refine za_iload_n (pc := 41) dX7_copy_41 rfl ?_
        refine za_iald (pc := 42) dX7_copy_42 rfl va ?_
        refine za_aload_n (pc := 43) dX7_copy_43 rfl ?_
        refine za_getR (pc := 44) dX7_copy_44 lk_X7_7 rfl rfl ?_
        refine za_iload_n (pc := 47) dX7_copy_47 rfl ?_
        refine za_iald (pc := 48) dX7_copy_48 rfl vb ?_
        rw [ea, k1, eb, l1]
        refine za_icmp_eq (pc := 49) 55 dX7_copy_49 (by decide) (fun c49 => ?_) (fun c49 => ?_)
        · have bad : ∀ hp : ¬ ((0 ≤ i.toInt ∧ 0 ≤ n.toInt ∧ i.toInt + n.toInt ≤ ss.2.1 a) ∧ (0 ≤ j.toInt ∧ 0 ≤ n.toInt ∧ j.toInt + n.toInt ≤ ss.2.1 b)), zA (zZ mX7_copy (zQI SH (fun x u => x = (spCopy (nI a) i (nI b) j n ss).1 ∧ MS u (spCopy (nI a) i (nI b) j n ss).2 ∧ FMs u σ))) mX7_copy none 0 0 104 [some (.ref 47), some (.int (nI a)), some (.int i), some (.int (nI b)), some (.int j), some (.int n), none] [] SH σ := by
            intro hp
            refine za_bipush (pc := 104) (-12) dX7_copy_104 (by decide) ?_
            refine za_ri (pc := 106) dX7_copy_106 rfl rfl rfl ?_
            rw [spCopy, if_pos h1, ea, eb, if_neg hmm, if_pos c49, if_neg hp]
            exact ⟨rfl, h, fun _ _ _ _ _ => rfl⟩
          refine za_iload (pc := 55) dX7_copy_55 rfl ?_
          refine za_if_lt (pc := 57) 104 dX7_copy_57 (by decide) (fun c57 => ?_) (fun c57 => ?_)
          · exact bad (by rw [fa_lt, e0] at c57; omega)
          refine za_iload_n (pc := 60) dX7_copy_60 rfl ?_
          refine za_if_lt (pc := 61) 104 dX7_copy_61 (by decide) (fun c61 => ?_) (fun c61 => ?_)
          · exact bad (by rw [fa_lt, e0] at c61; omega)
          refine za_iload (pc := 64) dX7_copy_64 rfl ?_
          refine za_if_lt (pc := 66) 104 dX7_copy_66 (by decide) (fun c66 => ?_) (fun c66 => ?_)
          · exact bad (by rw [fa_lt, e0] at c66; omega)
          rw [fa_lt, e0] at c57 c61 c66
          refine za_iload_n (pc := 69) dX7_copy_69 rfl ?_
          refine za_i2l (pc := 70) dX7_copy_70 ?_
          refine za_iload (pc := 71) dX7_copy_71 rfl ?_
          refine za_i2l (pc := 73) dX7_copy_73 ?_
          refine za_ladd (pc := 74) dX7_copy_74 ?_
          refine za_aload_n (pc := 75) dX7_copy_75 rfl ?_
          refine za_getR (pc := 76) dX7_copy_76 lk_X7_13 rfl rfl ?_
          refine za_iload_n (pc := 79) dX7_copy_79 rfl ?_
          refine za_iald (pc := 80) dX7_copy_80 rfl va ?_
          refine za_i2l (pc := 81) dX7_copy_81 ?_
          refine za_lcmp (pc := 82) dX7_copy_82 ?_
          rw [ea, k2]
          refine za_if_gt (pc := 83) 104 dX7_copy_83 (by decide) (fun c83 => ?_) (fun c83 => ?_)
          · rw [lg_gt, z64add, nI_toInt (by omega)] at c83
            exact bad (by omega)
          rw [lg_gt, z64add, nI_toInt (by omega)] at c83
          refine za_iload (pc := 86) dX7_copy_86 rfl ?_
          refine za_i2l (pc := 88) dX7_copy_88 ?_
          refine za_iload (pc := 89) dX7_copy_89 rfl ?_
          refine za_i2l (pc := 91) dX7_copy_91 ?_
          refine za_ladd (pc := 92) dX7_copy_92 ?_
          refine za_aload_n (pc := 93) dX7_copy_93 rfl ?_
          refine za_getR (pc := 94) dX7_copy_94 lk_X7_13 rfl rfl ?_
          refine za_iload_n (pc := 97) dX7_copy_97 rfl ?_
          refine za_iald (pc := 98) dX7_copy_98 rfl vb ?_
          refine za_i2l (pc := 99) dX7_copy_99 ?_
          refine za_lcmp (pc := 100) dX7_copy_100 ?_
          rw [eb, l2]
          refine za_if_le (pc := 101) 107 dX7_copy_101 (by decide) (fun c101 => ?_) (fun c101 => ?_)
          · rw [lg_le, ← Int64.not_lt, z64add, nI_toInt (by omega)] at c101
            obtain ⟨i', hi', rfl⟩ := vp_in_of (x := i) (n := 17) (vp_in_iff.mpr (by omega)) (by omega)
            obtain ⟨j', hj', rfl⟩ := vp_in_of (x := j) (n := 17) (vp_in_iff.mpr (by omega)) (by omega)
            obtain ⟨n', hn', rfl⟩ := vp_in_of (x := n) (n := 17) (vp_in_iff.mpr (by omega)) (by omega)
            rw [nI_toInt (show i' < 2 ^ 31 by omega)] at c83 c61
            rw [nI_toInt (show j' < 2 ^ 31 by omega)] at c101 c66
            rw [nI_toInt (show n' < 2 ^ 31 by omega)] at c101 c83 c57
            have esp : spCopy (nI a) (nI i') (nI b) (nI j') (nI n') ss = (0, (ss.1, ss.2.1, va_up ss.2.2 b (va_cpy (ss.2.2 a) (ss.2.2 b) i' j' n'))) := by
              rw [spCopy, if_pos h1, ea, eb, if_neg hmm, if_pos c49, if_pos (by rw [nI_toInt (show i' < 2 ^ 31 by omega), nI_toInt (show j' < 2 ^ 31 by omega), nI_toInt (show n' < 2 ^ 31 by omega)]; omega), nI_clamp (by omega), nI_clamp (by omega), nI_clamp (by omega)]
            rw [esp]
            refine za_iconst (pc := 107) (0) dX7_copy_107 (by decide) ?_
            refine za_is6 (pc := 108) dX7_copy_108 rfl ?_
            have loop2 : ∀ (q k : Nat) (σ1 : zSt), k + q = n' → (∀ c, c ≠ 50 → c ≠ 58 → σ1 c = σ c) → (∀ u, u < n' → σ1 58 u = σ 50 (16 * a + (i' + u))) → (∀ u, u < k → σ1 50 (16 * b + (j' + u)) = σ 50 (16 * a + (i' + u))) → (∀ u, (u < 16 * b + j' ∨ 16 * b + j' + k ≤ u) → σ1 50 u = σ 50 u) → zA (zZ mX7_copy (zQI SH (fun x u => x = (0 : Int32) ∧ MS u (ss.1, ss.2.1, va_up ss.2.2 b (va_cpy (ss.2.2 a) (ss.2.2 b) i' j' n')) ∧ FMs u σ))) mX7_copy none 0 0 147 [some (.ref 47), some (.int (nI a)), some (.int (nI i')), some (.int (nI b)), some (.int (nI j')), some (.int (nI n')), some (.int (nI k))] [] SH σ1 := by
              intro q
              induction q with
              | zero =>
                intro k σ1 hk f1 f2 f3 f4
                refine za_iload (pc := 147) dX7_copy_147 rfl ?_
                refine za_iload (pc := 149) dX7_copy_149 rfl ?_
                refine za_icmp_ge (pc := 151) 182 dX7_copy_151 (by decide) (fun c => ?_) (fun c => ?_)
                · refine za_iconst (pc := 182) (0) dX7_copy_182 (by decide) ?_
                  refine za_ri (pc := 183) dX7_copy_183 rfl rfl rfl ?_
                  refine ⟨rfl, MS_row h hb (f1 48 (by decide) (by decide)) (f1 49 (by decide) (by decide)) (fun u hu => ?_) (fun q u hq hne hu => f4 _ (by omega)), fun c _ _ h5 h8 => f1 c h5 h8⟩
                  unfold va_cpy
                  by_cases hu2 : j' ≤ u ∧ u < j' + n'
                  · rw [if_pos hu2]
                    have := f3 (u - j') (by omega)
                    rw [show 16 * b + (j' + (u - j')) = 16 * b + u by omega] at this
                    rw [this]
                    exact k3 _ (by omega)
                  · rw [if_neg hu2, f4 _ (by omega)]
                    exact l3 u hu
                · exact absurd (nI_le (show n' ≤ k by omega) (by omega)) c
              | succ q ih =>
                intro k σ1 hk f1 f2 f3 f4
                refine za_iload (pc := 147) dX7_copy_147 rfl ?_
                refine za_iload (pc := 149) dX7_copy_149 rfl ?_
                refine za_icmp_ge (pc := 151) 182 dX7_copy_151 (by decide) (fun c => ?_) (fun c => ?_)
                · exact absurd c (nI_ge (show k < n' by omega) (by omega))
                · refine za_aload_n (pc := 154) dX7_copy_154 rfl ?_
                  refine za_getR (pc := 155) dX7_copy_155 lk_X7_16 rfl rfl ?_
                  refine za_bipush (pc := 158) (16) dX7_copy_158 (by decide) ?_
                  refine za_iload_n (pc := 160) dX7_copy_160 rfl ?_
                  refine za_imul (pc := 161) dX7_copy_161 ?_
                  refine za_iload (pc := 162) dX7_copy_162 rfl ?_
                  refine za_iadd (pc := 164) dX7_copy_164 ?_
                  refine za_iload (pc := 165) dX7_copy_165 rfl ?_
                  refine za_iadd (pc := 167) dX7_copy_167 ?_
                  rw [m16b hb (by omega) (by omega)]
                  refine za_aload_n (pc := 168) dX7_copy_168 rfl ?_
                  refine za_getR (pc := 169) dX7_copy_169 lk_X7_40 rfl rfl ?_
                  refine za_iload (pc := 172) dX7_copy_172 rfl ?_
                  refine za_iald (pc := 174) dX7_copy_174 rfl (vp_in_nI (show k < 16 by omega) (by decide)) ?_
                  refine za_iast (pc := 175) dX7_copy_175 rfl (vp_in_nI (show 16 * b + (j' + k) < 96 by omega) (by decide)) ?_
                  refine za_ii6 (pc := 176) (1) dX7_copy_176 (by decide) rfl ?_
                  refine za_goto (pc := 179) 147 dX7_copy_179 (by decide) ?_
                  rw [nI_1, nI_clamp (show k < 2 ^ 31 by omega), nI_clamp (by omega), f2 k (by omega)]
                  refine ih (k + 1) _ (by omega) (fun c h5 h8 => by rw [zup_n h5]; exact f1 c h5 h8) (fun u hu => by rw [zup_n (by decide)]; exact f2 u hu) (fun u hu => ?_) (fun u hu => by rw [zup_b (by omega)]; exact f4 u (by omega))
                  by_cases e : u = k
                  · rw [e, zup_a]
                  · rw [zup_b (by omega)]; exact f3 u (by omega)
            have loop1 : ∀ (q k : Nat) (σ1 : zSt), k + q = n' → (∀ c, c ≠ 58 → σ1 c = σ c) → (∀ u, u < k → σ1 58 u = σ 50 (16 * a + (i' + u))) → zA (zZ mX7_copy (zQI SH (fun x u => x = (0 : Int32) ∧ MS u (ss.1, ss.2.1, va_up ss.2.2 b (va_cpy (ss.2.2 a) (ss.2.2 b) i' j' n')) ∧ FMs u σ))) mX7_copy none 0 0 110 [some (.ref 47), some (.int (nI a)), some (.int (nI i')), some (.int (nI b)), some (.int (nI j')), some (.int (nI n')), some (.int (nI k))] [] SH σ1 := by
              intro q
              induction q with
              | zero =>
                intro k σ1 hk f1 f2
                refine za_iload (pc := 110) dX7_copy_110 rfl ?_
                refine za_iload (pc := 112) dX7_copy_112 rfl ?_
                refine za_icmp_ge (pc := 114) 144 dX7_copy_114 (by decide) (fun c => ?_) (fun c => ?_)
                · refine za_iconst (pc := 144) (0) dX7_copy_144 (by decide) ?_
                  refine za_is6 (pc := 145) dX7_copy_145 rfl ?_
                  exact loop2 n' 0 σ1 (by omega) (fun c _ h8 => f1 c h8) (fun u hu => f2 u (by omega)) (fun u hu => absurd hu (by omega)) (fun u _ => by rw [f1 50 (by decide)])
                · exact absurd (nI_le (show n' ≤ k by omega) (by omega)) c
              | succ q ih =>
                intro k σ1 hk f1 f2
                refine za_iload (pc := 110) dX7_copy_110 rfl ?_
                refine za_iload (pc := 112) dX7_copy_112 rfl ?_
                refine za_icmp_ge (pc := 114) 144 dX7_copy_114 (by decide) (fun c => ?_) (fun c => ?_)
                · exact absurd c (nI_ge (show k < n' by omega) (by omega))
                · refine za_aload_n (pc := 117) dX7_copy_117 rfl ?_
                  refine za_getR (pc := 118) dX7_copy_118 lk_X7_40 rfl rfl ?_
                  refine za_iload (pc := 121) dX7_copy_121 rfl ?_
                  refine za_aload_n (pc := 123) dX7_copy_123 rfl ?_
                  refine za_getR (pc := 124) dX7_copy_124 lk_X7_16 rfl rfl ?_
                  refine za_bipush (pc := 127) (16) dX7_copy_127 (by decide) ?_
                  refine za_iload_n (pc := 129) dX7_copy_129 rfl ?_
                  refine za_imul (pc := 130) dX7_copy_130 ?_
                  refine za_iload_n (pc := 131) dX7_copy_131 rfl ?_
                  refine za_iadd (pc := 132) dX7_copy_132 ?_
                  refine za_iload (pc := 133) dX7_copy_133 rfl ?_
                  refine za_iadd (pc := 135) dX7_copy_135 ?_
                  rw [m16b ha (by omega) (by omega)]
                  refine za_iald (pc := 136) dX7_copy_136 rfl (vp_in_nI (show 16 * a + (i' + k) < 96 by omega) (by decide)) ?_
                  refine za_iast (pc := 137) dX7_copy_137 rfl (vp_in_nI (show k < 16 by omega) (by decide)) ?_
                  refine za_ii6 (pc := 138) (1) dX7_copy_138 (by decide) rfl ?_
                  refine za_goto (pc := 141) 110 dX7_copy_141 (by decide) ?_
                  rw [nI_1, nI_clamp (show k < 2 ^ 31 by omega), nI_clamp (by omega), f1 50 (by decide)]
                  refine ih (k + 1) _ (by omega) (fun c h8 => by rw [zup_n h8]; exact f1 c h8) (fun u hu => ?_)
                  by_cases e : u = k
                  · rw [e, zup_a]
                  · rw [zup_b (by omega)]; exact f2 u (by omega)
            exact loop1 n' 0 σ (by omega) (fun _ _ => rfl) (fun u hu => absurd hu (by omega))
          · rw [lg_le, ← Int64.not_lt, z64add, nI_toInt (by omega)] at c101
            exact bad (by omega)
        · refine za_bipush (pc := 52) (-14) dX7_copy_52 (by decide) ?_
          refine za_ri (pc := 54) dX7_copy_54 rfl rfl rfl ?_
          rw [spCopy, if_pos h1, ea, eb, if_neg hmm, if_neg c49]
          exact ⟨rfl, h, fun _ _ _ _ _ => rfl⟩
      · have hmb : ss.1 b = -1 := (sk_neg ho hb).mp (by rw [fa_lt]; rw [fa_le] at c31; omega)
        refine za_bipush (pc := 34) (-11) dX7_copy_34 (by decide) ?_
        refine za_ri (pc := 36) dX7_copy_36 rfl rfl rfl ?_
        rw [spCopy, if_pos h1, ea, eb, if_pos (Or.inr hmb)]
        exact ⟨rfl, h, fun _ _ _ _ _ => rfl⟩
    · exact absurd c11 (by decide)
  · by_cases h1r : 0 ≤ r ∧ r < 6
    · rw [if_pos h1r]
      refine za_if_eq (pc := 4) 14 dX7_copy_4 (by decide) (fun c4 => ?_) (fun c4 => ?_)
      · exact absurd c4 (by decide)
      refine za_iload_n (pc := 7) dX7_copy_7 rfl ?_
      refine za_cS1i (pc := 8) (μ' := mX7_isSheet) dX7_copy_8 c_X7_77 rfl ⟨rfl, rfl⟩ ⟨rfl, rfl⟩ rfl rfl rfl (tX7_isSheet) (fun x_8 t_8 h_8 => ?_)
      obtain ⟨rfl, h9⟩ := h_8
      have h9 := h9.symm
      subst h9
      have h1t : ¬ (0 ≤ t ∧ t < 6) := fun q => h1 ⟨h1r, q⟩
      rw [if_neg h1t]
      refine za_if_ne (pc := 11) 16 dX7_copy_11 (by decide) (fun c11 => ?_) (fun c11 => ?_)
      · exact absurd rfl c11
      · refine za_iconst (pc := 14) (-1) dX7_copy_14 (by decide) ?_
        refine za_ri (pc := 15) dX7_copy_15 rfl rfl rfl ?_
        rw [spCopy, if_neg h1]
        exact ⟨rfl, h, fun _ _ _ _ _ => rfl⟩
    · rw [if_neg h1r]
      refine za_if_eq (pc := 4) 14 dX7_copy_4 (by decide) (fun c4 => ?_) (fun c4 => ?_)
      · refine za_iconst (pc := 14) (-1) dX7_copy_14 (by decide) ?_
        refine za_ri (pc := 15) dX7_copy_15 rfl rfl rfl ?_
        rw [spCopy, if_neg h1]
        exact ⟨rfl, h, fun _ _ _ _ _ => rfl⟩
      · exact absurd rfl c4
theorem SO_sheet {r kd n : Int32} {ss : Shs} (ho : SO ss) : SO (spSheet r kd n ss).2 := by
  unfold spSheet
  have key : ∀ (j : Nat) (k : Int32) (m : Nat), m ≤ 16 → (k = -1 ∨ k = 0 ∨ k = 1 ∨ k = 2) → SO (shSet ss j k m (fun _ => 0)) := by
    intro j k m hm hk q hq
    by_cases e : q = j
    · subst e
      simp only [shSet, va_up, if_true]
      exact ⟨hm, hk⟩
    · simp only [shSet, va_up, if_neg e]
      exact ho q hq
  split
  · rename_i h1
    split
    · exact key _ _ _ (by omega) (Or.inl rfl)
    · rename_i h2
      split
      · exact ho
      · rename_i h3
        split
        · exact ho
        · rename_i h4
          refine key _ _ _ ?_ (Or.inr ?_)
          · rw [fa_lt] at h3 h4
            have e16 : (16 : Int32).toInt = 16 := rfl
            have e0 : (0 : Int32).toInt = 0 := rfl
            obtain ⟨m, hm, rfl⟩ := vp_in_of (x := n) (n := 17) (vp_in_iff.mpr (by omega)) (by omega)
            rw [nI_clamp (by omega)]
            omega
          · obtain ⟨-, a1, a2⟩ := h1
            rw [fa_le] at a1 a2
            rw [fa_eq] at h2
            have em : (-1 : Int32).toInt = -1 := rfl
            have e2 : (2 : Int32).toInt = 2 := rfl
            rw [fa_eq, fa_eq, fa_eq]
            show kd.toInt = 0 ∨ kd.toInt = 1 ∨ kd.toInt = 2
            omega
  · exact ho
theorem SO_put {r i v : Int32} {ss : Shs} (ho : SO ss) : SO (spPut r i v ss).2 := by
  unfold spPut
  split
  · split
    · exact ho
    · split
      · exact ho
      · exact ho
  · exact ho
theorem SO_copy {r i t j n : Int32} {ss : Shs} (ho : SO ss) : SO (spCopy r i t j n ss).2 := by
  unfold spCopy
  split
  · split
    · exact ho
    · split
      · split
        · exact ho
        · exact ho
      · exact ho
  · exact ho
end
section
/-! the jobs: a core is their number, KINDS, BEGINS, ENDS, BENCHES, and who waits for whom; H is the row of cores, H m the present one -/
abbrev Core : Type := Nat × (Nat → Int32) × (Nat → Int32) × (Nat → Int32) × (Nat → Int32) × (Nat → Nat → Bool)
abbrev cN (c : Core) : Nat := c.1
abbrev cK (c : Core) : Nat → Int32 := c.2.1
abbrev cB (c : Core) : Nat → Int32 := c.2.2.1
abbrev cE (c : Core) : Nat → Int32 := c.2.2.2.1
abbrev cH (c : Core) : Nat → Int32 := c.2.2.2.2.1
abbrev cW (c : Core) : Nat → Nat → Bool := c.2.2.2.2.2
abbrev isHr (a : Int32) : Prop := 1 ≤ a ∧ a ≤ 40
abbrev kdOk (k a b : Int32) : Prop := k = 0 ∨ (k = 1 ∧ isHr a) ∨ (k = 2 ∧ isHr a ∧ isHr b ∧ a ≤ b) ∨ (k = 3 ∧ (a = 0 ∨ a = 1))
def xB (v : Int32) : Int32 := if v = -3 then 1 else v
def xE (v : Int32) : Int32 := if v = -3 then 64 else v
def XCore (σ : zSt) (c : Core) : Prop := σ 2 5 = nI (cN c) ∧ (∀ a, a < cN c → σ 3 a = cK c a ∧ σ 4 a = xB (cB c a) ∧ σ 5 a = xE (cE c a) ∧ σ 6 a = cH c a ∧ σ 7 a = zmask (cW c a)) ∧ σ 4 10 = 1 ∧ σ 5 10 = 64 ∧ σ 6 10 = -3
def MCore (σ : zSt) (c : Core) : Prop := σ 47 3 = nI (cN c) ∧ ∀ a, a < cN c → σ 51 a = cK c a ∧ σ 52 a = cB c a ∧ σ 53 a = cE c a ∧ σ 54 a = cH c a ∧ σ 55 a = zmask (cW c a)
/-- what the kinds of a core are like -/
def kOk (k b e h : Int32) : Prop := (k = 0 ∧ b = -3 ∧ e = -3 ∧ h = -3) ∨ (k = 1 ∧ b = -3 ∧ isHr e ∧ h = -3) ∨ (k = 2 ∧ isHr b ∧ isHr e ∧ b ≤ e ∧ h = -3) ∨ (k = 3 ∧ b = -3 ∧ e = -3 ∧ (h = 0 ∨ h = 1))
/-- BEHIND, by Warshall's rounds -/
def wR (w : Nat → Nat → Bool) : Nat → Nat → Nat → Bool
  | 0 => w
  | c + 1 => fun a b => wR w c a b || (wR w c a c && wR w c c b)
abbrev bhd (c : Core) : Nat → Nat → Bool := wR (cW c) (cN c)
def cOk (c : Core) : Prop := cN c ≤ 10 ∧ (∀ a, a < cN c → kOk (cK c a) (cB c a) (cE c a) (cH c a)) ∧ (∀ a b, a < cN c → cW c a b = true → b < cN c) ∧ ∀ a, a < cN c → bhd c a a = false
/-- the log's entry (j, w0) leads from nx back to pv -/
def undoR (j w0 : Int32) (nx pv : Core) : Prop :=
  (j = 10 ∧ cN nx = cN pv + 1 ∧ ∀ a, a < cN pv → cK nx a = cK pv a ∧ cB nx a = cB pv a ∧ cE nx a = cE pv a ∧ cH nx a = cH pv a ∧ ∀ i, i < 16 → cW nx a i = cW pv a i) ∨
  ∃ q, q < cN pv ∧ j = nI q ∧ w0 = zmask (cW pv q) ∧ cN nx = cN pv ∧ ∀ a, a < cN pv → cK nx a = cK pv a ∧ cB nx a = cB pv a ∧ cE nx a = cE pv a ∧ cH nx a = cH pv a ∧ (a ≠ q → ∀ i, i < 16 → cW nx a i = cW pv a i)
def XHist (σ : zSt) (m : Nat) (H : Nat → Core) : Prop := σ 2 6 = nI m ∧ ∀ k, k < m → undoR (σ 8 k) (σ 9 k) (H (k + 1)) (H k)
def Snap (σ : zSt) (k : Nat) (c : Core) : Prop := σ 56 (51 * k) = nI (cN c) ∧ ∀ a, a < cN c → σ 56 (51 * k + (1 + 5 * a)) = cK c a ∧ σ 56 (51 * k + (2 + 5 * a)) = cB c a ∧ σ 56 (51 * k + (3 + 5 * a)) = cE c a ∧ σ 56 (51 * k + (4 + 5 * a)) = cH c a ∧ σ 56 (51 * k + (5 + 5 * a)) = zmask (cW c a)
def MHist (σ : zSt) (m : Nat) (H : Nat → Core) : Prop := σ 47 9 = nI m ∧ ∀ k, k < m → Snap σ k (H k)
def JOk (m : Nat) (H : Nat → Core) : Prop := m ≤ 20 ∧ ∀ k, k ≤ m → cOk (H k)
def pushN (m : Nat) : Nat := if m = 20 then 20 else m + 1
def pushH (m : Nat) (H : Nat → Core) (c : Core) : Nat → Core := if m = 20 then (fun k => if k < 20 then H (k + 1) else c) else (fun k => if k ≤ m then H k else c)
theorem push_top {m : Nat} {H : Nat → Core} {c : Core} : pushH m H c (pushN m) = c := by
  unfold pushH pushN
  by_cases h : m = 20
  · simp [h]
  · rw [if_neg h, if_neg h, if_neg (by omega)]
theorem push_ok {m : Nat} {H : Nat → Core} {c : Core} (h : JOk m H) (hc : cOk c) : JOk (pushN m) (pushH m H c) := by
  obtain ⟨h1, h2⟩ := h
  unfold pushH pushN
  by_cases e : m = 20
  · rw [if_pos e, if_pos e]
    refine ⟨by omega, fun k hk => ?_⟩
    by_cases hk2 : k < 20
    · simp only [if_pos hk2]; exact h2 _ (by omega)
    · simp only [if_neg hk2]; exact hc
  · rw [if_neg e, if_neg e]
    refine ⟨by omega, fun k hk => ?_⟩
    by_cases hk2 : k ≤ m
    · simp only [if_pos hk2]; exact h2 _ hk2
    · simp only [if_neg hk2]; exact hc
theorem tX5_has {σ : zSt} {a : Int32} {n : Nat} (hn : σ 2 5 = nI n) : zI mX5_has [.ref 2, .int a] SH σ (fun x t => x = (if 0 ≤ a ∧ a < nI n then 1 else 0) ∧ t = σ) := by
  refine zI_of (ls := [some (.ref 2), some (.int a)]) (by decide) rfl rfl ?_
  refine za_iload_n (pc := 0) dX5_has_0 rfl ?_
  refine za_if_lt (pc := 1) 16 dX5_has_1 (by decide) (fun c1 => ?_) (fun c1 => ?_)
  · refine za_iconst (pc := 16) (0) dX5_has_16 (by decide) ?_
    refine za_rz (pc := 17) dX5_has_17 rfl rfl rfl rfl ?_
    exact ⟨(if_neg (fun q => by rw [fa_lt] at c1; have := q.1; rw [fa_le] at this; omega)).symm, rfl⟩
  · refine za_iload_n (pc := 4) dX5_has_4 rfl ?_
    refine za_aload_n (pc := 5) dX5_has_5 rfl ?_
    refine za_getI (pc := 6) dX5_has_6 lk_X5_27 rfl rfl ?_
    rw [hn]
    refine za_icmp_ge (pc := 9) 16 dX5_has_9 (by decide) (fun c9 => ?_) (fun c9 => ?_)
    · refine za_iconst (pc := 16) (0) dX5_has_16 (by decide) ?_
      refine za_rz (pc := 17) dX5_has_17 rfl rfl rfl rfl ?_
      exact ⟨(if_neg (fun q => by rw [fa_le] at c9; have := q.2; rw [fa_lt] at this; omega)).symm, rfl⟩
    · refine za_iconst (pc := 12) (1) dX5_has_12 (by decide) ?_
      refine za_goto (pc := 13) 17 dX5_has_13 (by decide) ?_
      refine za_rz (pc := 17) dX5_has_17 rfl rfl rfl rfl ?_
      exact ⟨(if_pos ⟨by rw [fa_le]; rw [fa_lt] at c1; omega, by rw [fa_lt]; rw [fa_le] at c9; omega⟩).symm, rfl⟩
theorem tX5_all {σ : zSt} {n : Nat} (hn : σ 2 5 = nI n) (h : n ≤ 10) : zI mX5_all [.ref 2] SH σ (fun x t => x = zmask (fun i => decide (i < n)) ∧ t = σ) := by
  refine zI_of (ls := [some (.ref 2)]) (by decide) rfl rfl ?_
  refine za_aload_n (pc := 0) dX5_all_0 rfl ?_
  refine za_getI (pc := 1) dX5_all_1 lk_X5_27 rfl rfl ?_
  refine za_cSN1i (pc := 4) (μ' := mX6_bit) dX5_all_4 c_X5_49 rfl ⟨rfl, rfl⟩ ⟨rfl, rfl⟩ rfl rfl rfl (tX6_bit) (fun x_4 t_4 h_4 => ?_)
  obtain ⟨rfl, h9⟩ := h_4
  have h9 := h9.symm
  subst h9
  refine za_iconst (pc := 7) (1) dX5_all_7 (by decide) ?_
  refine za_isub (pc := 8) dX5_all_8 ?_
  refine za_ri (pc := 9) dX5_all_9 rfl rfl rfl ?_
  exact ⟨by rw [hn, zm_all (by omega)], rfl⟩
theorem tX5_note {σ : zSt} {m : Nat} {j w0 : Int32} (hm : σ 2 6 = nI m) (h : m ≤ 20) : zV mX5_note [.ref 2, .int j, .int w0] SH σ (fun t => (∀ c, c ≠ 2 → c ≠ 8 → c ≠ 9 → t c = σ c) ∧ (∀ i, i ≠ 6 → i ≠ 7 → t 2 i = σ 2 i) ∧ t 2 6 = nI (pushN m) ∧ t 2 7 = σ 2 7 + 1 ∧ (∀ k, k + 1 < pushN m → t 8 k = (if m = 20 then σ 8 (k + 1) else σ 8 k) ∧ t 9 k = (if m = 20 then σ 9 (k + 1) else σ 9 k)) ∧ t 8 (pushN m - 1) = j ∧ t 9 (pushN m - 1) = w0) := by
  have tail : ∀ (σ1 : zSt) (p : Nat), p < 20 → σ1 2 6 = nI p → zA (zZ mX5_note (zQV SH (fun t => t = zup (zup (zup (zup σ1 8 p j) 9 p w0) 2 6 (nI (p + 1))) 2 7 (σ1 2 7 + 1)))) mX5_note none 0 0 53 [some (.ref 2), some (.int j), some (.int w0)] [] SH σ1 := by
    intro σ1 p hp h6
    refine za_aload_n (pc := 53) dX5_note_53 rfl ?_
    refine za_getR (pc := 54) dX5_note_54 lk_X5_37 rfl rfl ?_
    refine za_aload_n (pc := 57) dX5_note_57 rfl ?_
    refine za_getI (pc := 58) dX5_note_58 lk_X5_31 rfl rfl ?_
    refine za_iload_n (pc := 61) dX5_note_61 rfl ?_
    rw [h6]
    refine za_iast (pc := 62) dX5_note_62 rfl (vp_in_nI hp (by decide)) ?_
    refine za_aload_n (pc := 63) dX5_note_63 rfl ?_
    refine za_getR (pc := 64) dX5_note_64 lk_X5_40 rfl rfl ?_
    refine za_aload_n (pc := 67) dX5_note_67 rfl ?_
    refine za_getI (pc := 68) dX5_note_68 lk_X5_31 rfl rfl ?_
    refine za_iload_n (pc := 71) dX5_note_71 rfl ?_
    rw [zup_n (by decide), h6, nI_clamp (by omega)]
    refine za_iast (pc := 72) dX5_note_72 rfl (vp_in_nI hp (by decide)) ?_
    refine za_aload_n (pc := 73) dX5_note_73 rfl ?_
    refine za_dup (pc := 74) dX5_note_74 rfl ?_
    refine za_getI (pc := 75) dX5_note_75 lk_X5_31 rfl rfl ?_
    refine za_iconst (pc := 78) (1) dX5_note_78 (by decide) ?_
    refine za_iadd (pc := 79) dX5_note_79 ?_
    refine za_putI (pc := 80) dX5_note_80 lp_X5_31 rfl rfl ?_
    refine za_aload_n (pc := 83) dX5_note_83 rfl ?_
    refine za_dup (pc := 84) dX5_note_84 rfl ?_
    refine za_getI (pc := 85) dX5_note_85 lk_X5_34 rfl rfl ?_
    refine za_iconst (pc := 88) (1) dX5_note_88 (by decide) ?_
    refine za_iadd (pc := 89) dX5_note_89 ?_
    refine za_putI (pc := 90) dX5_note_90 lp_X5_34 rfl rfl ?_
    refine za_rv (pc := 93) dX5_note_93 rfl rfl rfl ?_
    rw [nI_clamp (by omega)]
    have e1 : zup (zup σ1 8 p j) 9 p w0 2 6 = nI p := by rw [zup_n (by decide), zup_n (by decide), h6]
    rw [e1, nI_1]
    have e2 : zup (zup (zup σ1 8 p j) 9 p w0) 2 6 (nI (p + 1)) 2 7 = σ1 2 7 := by rw [zup_b (by decide), zup_n (by decide), zup_n (by decide)]
    rw [e2]
  refine zV_of (ls := [some (.ref 2), some (.int j), some (.int w0)]) (by decide) rfl rfl ?_
  refine za_aload_n (pc := 0) dX5_note_0 rfl ?_
  refine za_getI (pc := 1) dX5_note_1 lk_X5_31 rfl rfl ?_
  refine za_bipush (pc := 4) (20) dX5_note_4 (by decide) ?_
  rw [hm]
  refine za_icmp_ne (pc := 6) 53 dX5_note_6 (by decide) (fun c6 => ?_) (fun c6 => ?_)
  · have hm20 : m ≠ 20 := fun e => c6 (by rw [e]; rfl)
    refine zA_mono (tail σ m (by omega) hm) ?_
    intro v S' t ⟨e1, e2, e3⟩
    refine ⟨e1, e2, ?_⟩
    rw [e3]
    have ep : pushN m = m + 1 := if_neg hm20
    rw [ep]
    refine ⟨fun c h2 h8 h9 => ?_, fun i h6 h7 => ?_, ?_, ?_, fun k hk => ⟨?_, ?_⟩, ?_, ?_⟩
    · rw [zup_n h2, zup_n h2, zup_n h9, zup_n h8]
    · rw [zup_b h7, zup_b h6, zup_n (by decide), zup_n (by decide)]
    · rw [zup_b (by decide), zup_a]
    · rw [zup_a]
    · rw [if_neg hm20, zup_n (by decide), zup_n (by decide), zup_n (by decide), zup_b (by omega)]
    · rw [if_neg hm20, zup_n (by decide), zup_n (by decide), zup_b (by omega), zup_n (by decide)]
    · rw [zup_n (by decide), zup_n (by decide), zup_n (by decide), Nat.add_sub_cancel, zup_a]
    · rw [zup_n (by decide), zup_n (by decide), Nat.add_sub_cancel, zup_a]
  · have hm20 : m = 20 := (nI_eq (by omega) (by decide)).mp c6
    subst hm20
    refine za_aload_n (pc := 9) dX5_note_9 rfl ?_
    refine za_dup (pc := 10) dX5_note_10 rfl ?_
    refine za_getI (pc := 11) dX5_note_11 lk_X5_31 rfl rfl ?_
    refine za_iconst (pc := 14) (1) dX5_note_14 (by decide) ?_
    refine za_isub (pc := 15) dX5_note_15 ?_
    refine za_putI (pc := 16) dX5_note_16 lp_X5_31 rfl rfl ?_
    refine za_aload_n (pc := 19) dX5_note_19 rfl ?_
    refine za_getR (pc := 20) dX5_note_20 lk_X5_37 rfl rfl ?_
    refine za_iconst (pc := 23) (1) dX5_note_23 (by decide) ?_
    refine za_aload_n (pc := 24) dX5_note_24 rfl ?_
    refine za_getR (pc := 25) dX5_note_25 lk_X5_37 rfl rfl ?_
    refine za_iconst (pc := 28) (0) dX5_note_28 (by decide) ?_
    refine za_aload_n (pc := 29) dX5_note_29 rfl ?_
    refine za_getI (pc := 30) dX5_note_30 lk_X5_31 rfl rfl ?_
    have e19 : zup σ 2 6 (nI 20 - 1) 2 6 = nI 19 := by rw [zup_a]; rfl
    rw [show σ 2 6 = nI 20 from hm] at *
    rw [e19]
    refine za_copy (pc := 33) dX5_note_33 ac_X5_66 rfl rfl (by decide) (by decide) (by decide) (by decide) (by decide) (by decide) (by decide) ?_
    refine za_aload_n (pc := 36) dX5_note_36 rfl ?_
    refine za_getR (pc := 37) dX5_note_37 lk_X5_40 rfl rfl ?_
    refine za_iconst (pc := 40) (1) dX5_note_40 (by decide) ?_
    refine za_aload_n (pc := 41) dX5_note_41 rfl ?_
    refine za_getR (pc := 42) dX5_note_42 lk_X5_40 rfl rfl ?_
    refine za_iconst (pc := 45) (0) dX5_note_45 (by decide) ?_
    refine za_aload_n (pc := 46) dX5_note_46 rfl ?_
    refine za_getI (pc := 47) dX5_note_47 lk_X5_31 rfl rfl ?_
    rw [zrow_n (by decide), e19]
    refine za_copy (pc := 50) dX5_note_50 ac_X5_66 rfl rfl (by decide) (by decide) (by decide) (by decide) (by decide) (by decide) (by decide) ?_
    refine zA_mono (tail _ 19 (by decide) (by rw [zrow_n (by decide), zrow_n (by decide), e19])) ?_
    intro v S' t ⟨e1, e2, e3⟩
    refine ⟨e1, e2, ?_⟩
    rw [e3]
    have ep : pushN 20 = 20 := if_pos rfl
    rw [ep]
    refine ⟨fun c h2 h8 h9 => ?_, fun i h6 h7 => ?_, ?_, ?_, fun k hk => ⟨?_, ?_⟩, ?_, ?_⟩
    · rw [zup_n h2, zup_n h2, zup_n h9, zup_n h8, zrow_n h9, zrow_n h8, zup_n h2]
    · rw [zup_b h7, zup_b h6, zup_n (by decide), zup_n (by decide), zrow_n (by decide), zrow_n (by decide), zup_b h6]
    · rw [zup_b (by decide), zup_a]
    · rw [zup_a, zrow_n (by decide), zrow_n (by decide), zup_b (by decide)]
    · rw [if_pos rfl, zup_n (by decide), zup_n (by decide), zup_n (by decide), zup_b (by omega), zrow_n (by decide), zrow_s]
      unfold va_cpy
      rw [if_pos ⟨Nat.zero_le _, by show k < 0 + 19; omega⟩, zup_n (by decide)]
      show σ 8 (1 + (k - 0)) = _
      congr 1
      omega
    · rw [if_pos rfl, zup_n (by decide), zup_n (by decide), zup_b (by omega), zup_n (by decide), zrow_s]
      unfold va_cpy
      rw [if_pos ⟨Nat.zero_le _, by show k < 0 + 19; omega⟩, zrow_n (by decide), zup_n (by decide)]
      show σ 9 (1 + (k - 0)) = _
      congr 1
      omega
    · rw [zup_n (by decide), zup_n (by decide), zup_n (by decide), zup_a]
    · rw [zup_n (by decide), zup_n (by decide), zup_a]
end
section
/-! jobs of the class -/
theorem XHist_push {σ t : zSt} {m : Nat} {H : Nat → Core} {c : Core} {j w0 : Int32} (h : XHist σ m H) (hm : m ≤ 20) (h6 : t 2 6 = nI (pushN m)) (hk : ∀ k, k + 1 < pushN m → t 8 k = (if m = 20 then σ 8 (k + 1) else σ 8 k) ∧ t 9 k = (if m = 20 then σ 9 (k + 1) else σ 9 k)) (h8 : t 8 (pushN m - 1) = j) (h9 : t 9 (pushN m - 1) = w0) (hu : undoR j w0 c (H m)) : XHist t (pushN m) (pushH m H c) := by
  refine ⟨h6, fun k hk2 => ?_⟩
  by_cases e : m = 20
  · have ep : pushN m = 20 := if_pos e
    rw [ep] at hk2 hk h8 h9
    have eH : pushH m H c = fun k => if k < 20 then H (k + 1) else c := if_pos e
    rw [eH]
    by_cases e2 : k = 19
    · subst e2
      simp only [show ¬ (19 + 1 < 20) by decide, if_false, show 19 < 20 by decide, if_true]
      rw [h8, h9]
      rw [e] at hu
      exact hu
    · simp only [if_pos hk2, if_pos (show k + 1 < 20 by omega)]
      obtain ⟨a1, a2⟩ := hk k (by omega)
      rw [if_pos e] at a1 a2
      rw [a1, a2]
      exact h.2 (k + 1) (by omega)
  · have ep : pushN m = m + 1 := if_neg e
    rw [ep] at hk2 hk h8 h9
    have eH : pushH m H c = fun k => if k ≤ m then H k else c := if_neg e
    rw [eH]
    by_cases e2 : k = m
    · subst e2
      simp only [if_pos (Nat.le_refl k), if_neg (show ¬ k + 1 ≤ k by omega)]
      rw [Nat.add_sub_cancel] at h8 h9
      rw [h8, h9]
      exact hu
    · simp only [if_pos (show k ≤ m by omega), if_pos (show k + 1 ≤ m by omega)]
      obtain ⟨a1, a2⟩ := hk k (by omega)
      rw [if_neg e] at a1 a2
      rw [a1, a2]
      exact h.2 k (by omega)
/-- the jobs of the class: row of cores H up to m, version v -/
def XJ (σ : zSt) (m : Nat) (H : Nat → Core) (v : Nat) : Prop := XCore σ (H m) ∧ XHist σ m H ∧ σ 2 7 = nI v
/-- the core with one more job -/
def addC (c : Core) (k a b : Int32) : Core := (cN c + 1, va_up (cK c) (cN c) k, va_up (cB c) (cN c) (if k = 2 then a else -3), va_up (cE c) (cN c) (if k = 1 then a else if k = 2 then b else -3), va_up (cH c) (cN c) (if k = 3 then a else -3), va_up (cW c) (cN c) (fun _ => false))
theorem addC_N {c : Core} {k a b : Int32} : cN (addC c k a b) = cN c + 1 := rfl
theorem addC_K {c : Core} {k a b : Int32} {q : Nat} : cK (addC c k a b) q = if q = cN c then k else cK c q := rfl
theorem addC_B {c : Core} {k a b : Int32} {q : Nat} : cB (addC c k a b) q = if q = cN c then (if k = 2 then a else -3) else cB c q := rfl
theorem addC_E {c : Core} {k a b : Int32} {q : Nat} : cE (addC c k a b) q = if q = cN c then (if k = 1 then a else if k = 2 then b else -3) else cE c q := rfl
theorem addC_H {c : Core} {k a b : Int32} {q : Nat} : cH (addC c k a b) q = if q = cN c then (if k = 3 then a else -3) else cH c q := rfl
theorem addC_W {c : Core} {k a b : Int32} {q : Nat} : cW (addC c k a b) q = if q = cN c then (fun _ => false) else cW c q := rfl
/-- only these cells change in a change of jobs -/
def FJ (t σ : zSt) : Prop := ∀ c, c < 2 ∨ 10 ≤ c → t c = σ c
theorem tX5_add {σ : zSt} {m v : Nat} {H : Nat → Core} {k a b : Int32} (h : XJ σ m H v) (ho : JOk m H) (hn : cN (H m) < 10) (hk : kdOk k a b) : zI mX5_add [.ref 2, .int k, .int a, .int b] SH σ (fun x t => x = nI (cN (H m)) ∧ XJ t (pushN m) (pushH m H (addC (H m) k a b)) (v + 1) ∧ FJ t σ) := by
  obtain ⟨⟨c1, c2, c3, c4, c5⟩, hh, hv⟩ := h
  refine zI_of (ls := [some (.ref 2), some (.int k), some (.int a), some (.int b), none]) (by decide) rfl rfl ?_
  refine za_aload_n (pc := 0) dX5_add_0 rfl ?_
  refine za_getI (pc := 1) dX5_add_1 lk_X5_27 rfl rfl ?_
  refine za_is4 (pc := 4) dX5_add_4 rfl ?_
  refine za_aload_n (pc := 6) dX5_add_6 rfl ?_
  refine za_bipush (pc := 7) (10) dX5_add_7 (by decide) ?_
  refine za_iconst (pc := 9) (0) dX5_add_9 (by decide) ?_
  rw [c1]
  generalize hN : cN (H m) = N at *
  refine za_cV2v (pc := 10) (μ' := mX5_note) dX5_add_10 c_X5_53 rfl rfl rfl ⟨rfl, rfl⟩ ⟨rfl, rfl⟩ rfl rfl rfl (tX5_note hh.1 ho.1) (fun t_10 h_10 => ?_)
  obtain ⟨n1, n2, n3, n4, n5, n6, n7⟩ := h_10
  generalize t_10 = t at *
  have vN : vp_in (nI N) 10 := vp_in_nI hn (by decide)
  have vN1 : vp_in (nI N) 11 := vp_in_nI (by omega) (by decide)
  have eN : (nI N).toNatClampNeg = N := nI_clamp (by omega)
  -- the last part, with the numbers that were chosen
  have fin : ∀ (x1 x2 x3 : Int32), x1 = xB (if k = 2 then a else -3) → x2 = xE (if k = 1 then a else if k = 2 then b else -3) → x3 = (if k = 3 then a else -3) → ∀ u : zSt, u = zup (zup (zup (zup (zup t 3 N k) 4 N x1) 5 N x2) 6 N x3) 7 N 0 → zA (zZ mX5_add (zQI SH (fun x t => x = nI N ∧ XJ t (pushN m) (pushH m H (addC (H m) k a b)) (v + 1) ∧ FJ t σ))) mX5_add none 0 0 91 [some (.ref 2), some (.int k), some (.int a), some (.int b), some (.int (nI N))] [] SH u := by
    intro x1 x2 x3 ex1 ex2 ex3 u eu
    refine za_aload_n (pc := 91) dX5_add_91 rfl ?_
    refine za_dup (pc := 92) dX5_add_92 rfl ?_
    refine za_getI (pc := 93) dX5_add_93 lk_X5_27 rfl rfl ?_
    refine za_iconst (pc := 96) (1) dX5_add_96 (by decide) ?_
    refine za_iadd (pc := 97) dX5_add_97 ?_
    refine za_putI (pc := 98) dX5_add_98 lp_X5_27 rfl rfl ?_
    refine za_iload (pc := 101) dX5_add_101 rfl ?_
    refine za_ri (pc := 103) dX5_add_103 rfl rfl rfl ?_
    have eu5 : u 2 5 = nI N := by
      rw [eu, zup_n (by decide), zup_n (by decide), zup_n (by decide), zup_n (by decide), zup_n (by decide), n2 5 (by decide) (by decide), c1]
    have r2 : ∀ i, u 2 i = t 2 i := fun i => by rw [eu, zup_n (by decide), zup_n (by decide), zup_n (by decide), zup_n (by decide), zup_n (by decide)]
    have r3 : ∀ i, u 3 i = upd (t 3) N k i := fun i => by rw [eu, zup_n (by decide), zup_n (by decide), zup_n (by decide), zup_n (by decide), zup_s]
    have r4 : ∀ i, u 4 i = upd (t 4) N x1 i := fun i => by rw [eu, zup_n (by decide), zup_n (by decide), zup_n (by decide), zup_s, zup_n (by decide)]
    have r5 : ∀ i, u 5 i = upd (t 5) N x2 i := fun i => by rw [eu, zup_n (by decide), zup_n (by decide), zup_s, zup_n (by decide), zup_n (by decide)]
    have r6 : ∀ i, u 6 i = upd (t 6) N x3 i := fun i => by rw [eu, zup_n (by decide), zup_s, zup_n (by decide), zup_n (by decide), zup_n (by decide)]
    have r7 : ∀ i, u 7 i = upd (t 7) N 0 i := fun i => by rw [eu, zup_s, zup_n (by decide), zup_n (by decide), zup_n (by decide), zup_n (by decide)]
    have r8 : ∀ c, 8 ≤ c → u c = t c := fun c hc => by rw [eu, zup_n (by omega), zup_n (by omega), zup_n (by omega), zup_n (by omega), zup_n (by omega)]
    have rF : ∀ c, c < 2 → u c = t c := fun c hc => by rw [eu, zup_n (by omega), zup_n (by omega), zup_n (by omega), zup_n (by omega), zup_n (by omega)]
    refine ⟨rfl, ⟨?_, XHist_push (j := 10) (w0 := 0) hh ho.1 ?_ ?_ ?_ ?_ (Or.inl ⟨rfl, addC_N, fun q hq => ?_⟩), ?_⟩, ?_⟩
    · rw [push_top]
      refine ⟨?_, fun q hq => ?_, ?_, ?_, ?_⟩
      · rw [zup_a, eu5, nI_1, addC_N, hN]
      · simp only [zup_n (show (3 : Nat) ≠ 2 by decide), zup_n (show (4 : Nat) ≠ 2 by decide), zup_n (show (5 : Nat) ≠ 2 by decide), zup_n (show (6 : Nat) ≠ 2 by decide), zup_n (show (7 : Nat) ≠ 2 by decide)]
        rw [r3, r4, r5, r6, r7, n1 3 (by decide) (by decide) (by decide), n1 4 (by decide) (by decide) (by decide), n1 5 (by decide) (by decide) (by decide), n1 6 (by decide) (by decide) (by decide), n1 7 (by decide) (by decide) (by decide)]
        rw [addC_N, hN] at hq
        rw [addC_K, addC_B, addC_E, addC_H, addC_W, hN]
        by_cases e : q = N
        · subst e
          simp only [pk_us, if_true]
          exact ⟨trivial, ex1, ex2, ex3, zm_0.symm⟩
        · simp only [pk_un e, if_neg e]
          exact c2 q (by omega)
      · rw [zup_n (by decide), r4, pk_un (by omega), n1 4 (by decide) (by decide) (by decide)]; exact c3
      · rw [zup_n (by decide), r5, pk_un (by omega), n1 5 (by decide) (by decide) (by decide)]; exact c4
      · rw [zup_n (by decide), r6, pk_un (by omega), n1 6 (by decide) (by decide) (by decide)]; exact c5
    · rw [zup_b (by decide), r2]; exact n3
    · intro q hq
      rw [zup_n (by decide), zup_n (by decide), r8 8 (by decide), r8 9 (by decide)]
      exact n5 q hq
    · rw [zup_n (by decide), r8 8 (by decide)]; exact n6
    · rw [zup_n (by decide), r8 9 (by decide)]; exact n7
    · rw [addC_K, addC_B, addC_E, addC_H, addC_W]
      have e : q ≠ cN (H m) := by omega
      simp only [if_neg e]
      exact ⟨trivial, trivial, trivial, trivial, fun _ _ => trivial⟩
    · rw [zup_b (by decide), r2, n4, hv, nI_1]
    · intro c hc
      rcases hc with hc | hc
      · rw [zup_n (by omega), rF c hc, n1 c (by omega) (by omega) (by omega)]
      · rw [zup_n (by omega), r8 c (by omega), n1 c (by omega) (by omega) (by omega)]
  refine za_aload_n (pc := 13) dX5_add_13 rfl ?_
  refine za_getR (pc := 14) dX5_add_14 lk_X5_9 rfl rfl ?_
  refine za_iload (pc := 17) dX5_add_17 rfl ?_
  refine za_iload_n (pc := 19) dX5_add_19 rfl ?_
  refine za_iast (pc := 20) dX5_add_20 rfl vN ?_
  refine za_aload_n (pc := 21) dX5_add_21 rfl ?_
  refine za_getR (pc := 22) dX5_add_22 lk_X5_15 rfl rfl ?_
  refine za_iload (pc := 25) dX5_add_25 rfl ?_
  refine za_iload_n (pc := 27) dX5_add_27 rfl ?_
  refine za_iconst (pc := 28) (2) dX5_add_28 (by decide) ?_
  rw [eN]
  have f6 : ∀ (x1 x2 : Int32), x1 = xB (if k = 2 then a else -3) → x2 = xE (if k = 1 then a else if k = 2 then b else -3) → zA (zZ mX5_add (zQI SH (fun x t => x = nI N ∧ XJ t (pushN m) (pushH m H (addC (H m) k a b)) (v + 1) ∧ FJ t σ))) mX5_add none 0 0 64 [some (.ref 2), some (.int k), some (.int a), some (.int b), some (.int (nI N))] [.int x2, .int (nI N), .ref 5] SH (zup (zup t 3 N k) 4 N x1) := by
    intro x1 x2 e1 e2
    refine za_iast (pc := 64) dX5_add_64 rfl vN1 ?_
    refine za_aload_n (pc := 65) dX5_add_65 rfl ?_
    refine za_getR (pc := 66) dX5_add_66 lk_X5_21 rfl rfl ?_
    refine za_iload (pc := 69) dX5_add_69 rfl ?_
    refine za_iload_n (pc := 71) dX5_add_71 rfl ?_
    refine za_iconst (pc := 72) (3) dX5_add_72 (by decide) ?_
    rw [eN]
    refine za_icmp_ne (pc := 73) 80 dX5_add_73 (by decide) (fun c73 => ?_) (fun c73 => ?_)
    · refine za_bipush (pc := 80) (-3) dX5_add_80 (by decide) ?_
      refine za_iast (pc := 82) dX5_add_82 rfl vN1 ?_
      refine za_aload_n (pc := 83) dX5_add_83 rfl ?_
      refine za_getR (pc := 84) dX5_add_84 lk_X5_24 rfl rfl ?_
      refine za_iload (pc := 87) dX5_add_87 rfl ?_
      refine za_iconst (pc := 89) (0) dX5_add_89 (by decide) ?_
      refine za_iast (pc := 90) dX5_add_90 rfl vN ?_
      rw [eN]
      exact fin x1 x2 (-3) e1 e2 (by rw [if_neg c73]) _ rfl
    · refine za_iload_n (pc := 76) dX5_add_76 rfl ?_
      refine za_goto (pc := 77) 82 dX5_add_77 (by decide) ?_
      refine za_iast (pc := 82) dX5_add_82 rfl vN1 ?_
      refine za_aload_n (pc := 83) dX5_add_83 rfl ?_
      refine za_getR (pc := 84) dX5_add_84 lk_X5_24 rfl rfl ?_
      refine za_iload (pc := 87) dX5_add_87 rfl ?_
      refine za_iconst (pc := 89) (0) dX5_add_89 (by decide) ?_
      refine za_iast (pc := 90) dX5_add_90 rfl vN ?_
      rw [eN]
      exact fin x1 x2 a e1 e2 (by rw [if_pos c73]) _ rfl
  have f4 : ∀ (x1 : Int32), x1 = xB (if k = 2 then a else -3) → zA (zZ mX5_add (zQI SH (fun x t => x = nI N ∧ XJ t (pushN m) (pushH m H (addC (H m) k a b)) (v + 1) ∧ FJ t σ))) mX5_add none 0 0 37 [some (.ref 2), some (.int k), some (.int a), some (.int b), some (.int (nI N))] [.int x1, .int (nI N), .ref 4] SH (zup t 3 N k) := by
    intro x1 e1
    refine za_iast (pc := 37) dX5_add_37 rfl vN1 ?_
    refine za_aload_n (pc := 38) dX5_add_38 rfl ?_
    refine za_getR (pc := 39) dX5_add_39 lk_X5_18 rfl rfl ?_
    refine za_iload (pc := 42) dX5_add_42 rfl ?_
    refine za_iload_n (pc := 44) dX5_add_44 rfl ?_
    refine za_iconst (pc := 45) (2) dX5_add_45 (by decide) ?_
    rw [eN]
    refine za_icmp_ne (pc := 46) 53 dX5_add_46 (by decide) (fun c46 => ?_) (fun c46 => ?_)
    · refine za_iload_n (pc := 53) dX5_add_53 rfl ?_
      refine za_iconst (pc := 54) (1) dX5_add_54 (by decide) ?_
      refine za_icmp_ne (pc := 55) 62 dX5_add_55 (by decide) (fun c55 => ?_) (fun c55 => ?_)
      · refine za_bipush (pc := 62) (64) dX5_add_62 (by decide) ?_
        exact f6 x1 64 e1 (by rw [if_neg c55, if_neg c46]; rfl)
      · refine za_iload_n (pc := 58) dX5_add_58 rfl ?_
        refine za_goto (pc := 59) 64 dX5_add_59 (by decide) ?_
        refine f6 x1 a e1 ?_
        rw [if_pos c55]
        rcases hk with q | q | q | q
        · rw [c55] at q; exact absurd q (by decide)
        · unfold xE
          rw [if_neg (fun e => absurd q.2.1 (by rw [e]; decide))]
        · rw [c55] at q; exact absurd q.1 (by decide)
        · rw [c55] at q; exact absurd q.1 (by decide)
    · refine za_iload_n (pc := 49) dX5_add_49 rfl ?_
      refine za_goto (pc := 50) 64 dX5_add_50 (by decide) ?_
      refine f6 x1 b e1 ?_
      rw [if_pos c46, if_neg (by rw [c46]; decide)]
      rcases hk with q | q | q | q
      · rw [c46] at q; exact absurd q (by decide)
      · rw [c46] at q; exact absurd q.1 (by decide)
      · unfold xE
        rw [if_neg (fun e => absurd q.2.2.1.1 (by rw [e]; decide))]
      · rw [c46] at q; exact absurd q.1 (by decide)
  refine za_icmp_ne (pc := 29) 36 dX5_add_29 (by decide) (fun c29 => ?_) (fun c29 => ?_)
  · refine za_iconst (pc := 36) (1) dX5_add_36 (by decide) ?_
    exact f4 1 (by rw [if_neg c29]; rfl)
  · refine za_iload_n (pc := 32) dX5_add_32 rfl ?_
    refine za_goto (pc := 33) 37 dX5_add_33 (by decide) ?_
    refine f4 a ?_
    rw [if_pos c29]
    rcases hk with q | q | q | q
    · rw [c29] at q; exact absurd q (by decide)
    · rw [c29] at q; exact absurd q.1 (by decide)
    · unfold xB
      rw [if_neg (fun e => absurd q.2.1.1 (by rw [e]; decide))]
    · rw [c29] at q; exact absurd q.1 (by decide)
end
section
/-- the core in which job a waits just for f -/
def wC (c : Core) (a : Nat) (f : Nat → Bool) : Core := (cN c, cK c, cB c, cE c, cH c, va_up (cW c) a f)
theorem wC_W {c : Core} {a q : Nat} {f : Nat → Bool} : cW (wC c a f) q = if q = a then f else cW c q := rfl
theorem undo_wC {c : Core} {a : Nat} {f : Nat → Bool} (ha : a < cN c) : undoR (nI a) (zmask (cW c a)) (wC c a f) c :=
  Or.inr ⟨a, ha, rfl, rfl, rfl, fun q _ => ⟨rfl, rfl, rfl, rfl, fun hne i _ => by rw [wC_W, if_neg hne]⟩⟩
/-- one note and one new mask: the class's jobs go on -/
theorem XJ_wait {σ t u : zSt} {m v a : Nat} {H : Nat → Core} {f : Nat → Bool} (h : XJ σ m H v) (ho : JOk m H) (ha : a < cN (H m))
    (n1 : ∀ c, c ≠ 2 → c ≠ 8 → c ≠ 9 → t c = σ c) (n2 : ∀ i, i ≠ 6 → i ≠ 7 → t 2 i = σ 2 i) (n3 : t 2 6 = nI (pushN m)) (n4 : t 2 7 = σ 2 7 + 1) (n5 : ∀ k, k + 1 < pushN m → t 8 k = (if m = 20 then σ 8 (k + 1) else σ 8 k) ∧ t 9 k = (if m = 20 then σ 9 (k + 1) else σ 9 k)) (n6 : t 8 (pushN m - 1) = nI a) (n7 : t 9 (pushN m - 1) = zmask (cW (H m) a))
    (hu : u = zup t 7 a (zmask f)) : XJ u (pushN m) (pushH m H (wC (H m) a f)) (v + 1) ∧ FJ u σ := by
  obtain ⟨⟨c1, c2, c3, c4, c5⟩, hh, hv⟩ := h
  have r : ∀ c, c ≠ 7 → u c = t c := fun c hc => by rw [hu, zup_n hc]
  refine ⟨⟨?_, XHist_push hh ho.1 (by rw [r 2 (by decide)]; exact n3) (fun k hk => by rw [r 8 (by decide), r 9 (by decide)]; exact n5 k hk) (by rw [r 8 (by decide)]; exact n6) (by rw [r 9 (by decide)]; exact n7) (undo_wC ha), by rw [r 2 (by decide), n4, hv, nI_1]⟩, fun c hc => by rw [r c (by omega), n1 c (by omega) (by omega) (by omega)]⟩
  rw [push_top]
  refine ⟨by rw [r 2 (by decide), n2 5 (by decide) (by decide)]; exact c1, fun q hq => ?_, by rw [r 4 (by decide), n1 4 (by decide) (by decide) (by decide)]; exact c3, by rw [r 5 (by decide), n1 5 (by decide) (by decide) (by decide)]; exact c4, by rw [r 6 (by decide), n1 6 (by decide) (by decide) (by decide)]; exact c5⟩
  obtain ⟨a1, a2, a3, a4, a5⟩ := c2 q hq
  refine ⟨by rw [r 3 (by decide), n1 3 (by decide) (by decide) (by decide)]; exact a1, by rw [r 4 (by decide), n1 4 (by decide) (by decide) (by decide)]; exact a2, by rw [r 5 (by decide), n1 5 (by decide) (by decide) (by decide)]; exact a3, by rw [r 6 (by decide), n1 6 (by decide) (by decide) (by decide)]; exact a4, ?_⟩
  rw [hu, wC_W]
  by_cases e : q = a
  · rw [e, zup_a, if_pos rfl]
  · rw [zup_b e, if_neg e, n1 7 (by decide) (by decide) (by decide)]; exact a5
theorem tX5_waitForMore {σ : zSt} {m v a : Nat} {H : Nat → Core} {o : Nat → Bool} (h : XJ σ m H v) (ho : JOk m H) (ha : a < cN (H m)) (h10 : ∀ i, 10 ≤ i → o i = false) : zI mX5_waitForMore [.ref 2, .int (nI a), .int (zmask o)] SH σ (fun x t => x = nI (cnt (fun i => o i && !cW (H m) a i) 10) ∧ (((∀ i, i < 16 → (o i && !cW (H m) a i) = false) ∧ t = σ) ∨ (¬ (∀ i, i < 16 → (o i && !cW (H m) a i) = false) ∧ XJ t (pushN m) (pushH m H (wC (H m) a (fun i => cW (H m) a i || o i))) (v + 1) ∧ FJ t σ))) := by
  have hn : cN (H m) ≤ 10 := (ho.2 m (Nat.le_refl m)).1
  have va : vp_in (nI a) 10 := vp_in_nI (by omega) (by decide)
  have ea : (nI a).toNatClampNeg = a := nI_clamp (by omega)
  have w7 := (h.1.2.1 a ha).2.2.2.2
  refine zI_of (ls := [some (.ref 2), some (.int (nI a)), some (.int (zmask o)), none]) (by decide) rfl rfl ?_
  refine za_iload_n (pc := 0) dX5_waitForMore_0 rfl ?_
  refine za_aload_n (pc := 1) dX5_waitForMore_1 rfl ?_
  refine za_getR (pc := 2) dX5_waitForMore_2 lk_X5_24 rfl rfl ?_
  refine za_iload_n (pc := 5) dX5_waitForMore_5 rfl ?_
  refine za_iald (pc := 6) dX5_waitForMore_6 rfl va ?_
  rw [ea, w7]
  refine za_iconst (pc := 7) (-1) dX5_waitForMore_7 (by decide) ?_
  refine za_ixor (pc := 8) dX5_waitForMore_8 ?_
  refine za_iand (pc := 9) dX5_waitForMore_9 ?_
  rw [zm_not]
  refine za_is3n (pc := 10) dX5_waitForMore_10 rfl ?_
  refine za_iload_n (pc := 11) dX5_waitForMore_11 rfl ?_
  refine za_if_eq (pc := 12) 36 dX5_waitForMore_12 (by decide) (fun c12 => ?_) (fun c12 => ?_)
  · rw [zm_z] at c12
    refine za_iload_n (pc := 36) dX5_waitForMore_36 rfl ?_
    refine za_cS1i (pc := 37) (μ' := mJ6_bitCount_0f7a4) dX5_waitForMore_37 c_X5_57 rfl ⟨rfl, rfl⟩ ⟨rfl, rfl⟩ rfl rfl rfl (tJ6_bitCount_0f7a4) (fun x_37 t_37 h_37 => ?_)
    obtain ⟨rfl, h9⟩ := h_37
    have h9 := h9.symm
    subst h9
    refine za_ri (pc := 40) dX5_waitForMore_40 rfl rfl rfl ?_
    exact ⟨zm_bc (fun i hi => by rw [h10 i hi]; rfl), Or.inl ⟨c12, rfl⟩⟩
  · rw [zm_z] at c12
    refine za_aload_n (pc := 15) dX5_waitForMore_15 rfl ?_
    refine za_iload_n (pc := 16) dX5_waitForMore_16 rfl ?_
    refine za_aload_n (pc := 17) dX5_waitForMore_17 rfl ?_
    refine za_getR (pc := 18) dX5_waitForMore_18 lk_X5_24 rfl rfl ?_
    refine za_iload_n (pc := 21) dX5_waitForMore_21 rfl ?_
    refine za_iald (pc := 22) dX5_waitForMore_22 rfl va ?_
    rw [ea, w7]
    refine za_cV2v (pc := 23) (μ' := mX5_note) dX5_waitForMore_23 c_X5_53 rfl rfl rfl ⟨rfl, rfl⟩ ⟨rfl, rfl⟩ rfl rfl rfl (tX5_note h.2.1.1 ho.1) (fun t_23 h_23 => ?_)
    obtain ⟨n1, n2, n3, n4, n5, n6, n7⟩ := h_23
    refine za_aload_n (pc := 26) dX5_waitForMore_26 rfl ?_
    refine za_getR (pc := 27) dX5_waitForMore_27 lk_X5_24 rfl rfl ?_
    refine za_iload_n (pc := 30) dX5_waitForMore_30 rfl ?_
    refine za_dup2 (pc := 31) dX5_waitForMore_31 rfl rfl ?_
    refine za_iald (pc := 32) dX5_waitForMore_32 rfl va ?_
    rw [ea, n1 7 (by decide) (by decide) (by decide), w7]
    refine za_iload_n (pc := 33) dX5_waitForMore_33 rfl ?_
    refine za_ior (pc := 34) dX5_waitForMore_34 ?_
    rw [zm_or]
    refine za_iast (pc := 35) dX5_waitForMore_35 rfl va ?_
    refine za_iload_n (pc := 36) dX5_waitForMore_36 rfl ?_
    refine za_cS1i (pc := 37) (μ' := mJ6_bitCount_0f7a4) dX5_waitForMore_37 c_X5_57 rfl ⟨rfl, rfl⟩ ⟨rfl, rfl⟩ rfl rfl rfl (tJ6_bitCount_0f7a4) (fun x_37 t_37 h_37 => ?_)
    obtain ⟨rfl, h9⟩ := h_37
    have h9 := h9.symm
    subst h9
    refine za_ri (pc := 40) dX5_waitForMore_40 rfl rfl rfl ?_
    rw [ea]
    refine ⟨zm_bc (fun i hi => by rw [h10 i hi]; rfl), Or.inr ⟨c12, ?_⟩⟩
    refine XJ_wait (f := fun i => cW (H m) a i || o i) h ho ha n1 n2 n3 n4 n5 n6 n7 ?_
    congr 1
    apply zm_cong
    intro i _
    cases cW (H m) a i <;> cases o i <;> rfl
theorem tX5_waitNoMore {σ : zSt} {m v a b : Nat} {H : Nat → Core} (h : XJ σ m H v) (ho : JOk m H) (ha : a < cN (H m)) (hb : b < cN (H m)) : zI mX5_waitNoMore [.ref 2, .int (nI a), .int (nI b)] SH σ (fun x t => (cW (H m) a b = false ∧ x = 0 ∧ t = σ) ∨ (cW (H m) a b = true ∧ x = 1 ∧ XJ t (pushN m) (pushH m H (wC (H m) a (fun i => cW (H m) a i && !decide (i = b)))) (v + 1) ∧ FJ t σ)) := by
  have hn : cN (H m) ≤ 10 := (ho.2 m (Nat.le_refl m)).1
  have va : vp_in (nI a) 10 := vp_in_nI (by omega) (by decide)
  have ea : (nI a).toNatClampNeg = a := nI_clamp (by omega)
  have w7 := (h.1.2.1 a ha).2.2.2.2
  refine zI_of (ls := [some (.ref 2), some (.int (nI a)), some (.int (nI b))]) (by decide) rfl rfl ?_
  refine za_aload_n (pc := 0) dX5_waitNoMore_0 rfl ?_
  refine za_getR (pc := 1) dX5_waitNoMore_1 lk_X5_24 rfl rfl ?_
  refine za_iload_n (pc := 4) dX5_waitNoMore_4 rfl ?_
  refine za_iald (pc := 5) dX5_waitNoMore_5 rfl va ?_
  rw [ea, w7]
  refine za_iload_n (pc := 6) dX5_waitNoMore_6 rfl ?_
  refine za_cSN2i (pc := 7) (μ' := mX6_holds) dX5_waitNoMore_7 c_X5_62 rfl ⟨rfl, rfl⟩ ⟨rfl, rfl⟩ rfl rfl rfl (tX6_holds) (fun x_7 t_7 h_7 => ?_)
  obtain ⟨rfl, h9⟩ := h_7
  have h9 := h9.symm
  subst h9
  by_cases hw : cW (H m) a b = false
  · rw [if_pos ((zm_h (by omega)).mpr hw)]
    refine za_if_ne (pc := 10) 15 dX5_waitNoMore_10 (by decide) (fun c10 => ?_) (fun c10 => ?_)
    · exact absurd rfl c10
    · refine za_iconst (pc := 13) (0) dX5_waitNoMore_13 (by decide) ?_
      refine za_ri (pc := 14) dX5_waitNoMore_14 rfl rfl rfl ?_
      exact Or.inl ⟨hw, rfl, rfl⟩
  · rw [if_neg (fun q => hw ((zm_h (by omega)).mp q))]
    refine za_if_ne (pc := 10) 15 dX5_waitNoMore_10 (by decide) (fun c10 => ?_) (fun c10 => ?_)
    · refine za_aload_n (pc := 15) dX5_waitNoMore_15 rfl ?_
      refine za_iload_n (pc := 16) dX5_waitNoMore_16 rfl ?_
      refine za_aload_n (pc := 17) dX5_waitNoMore_17 rfl ?_
      refine za_getR (pc := 18) dX5_waitNoMore_18 lk_X5_24 rfl rfl ?_
      refine za_iload_n (pc := 21) dX5_waitNoMore_21 rfl ?_
      refine za_iald (pc := 22) dX5_waitNoMore_22 rfl va ?_
      rw [ea, w7]
      refine za_cV2v (pc := 23) (μ' := mX5_note) dX5_waitNoMore_23 c_X5_53 rfl rfl rfl ⟨rfl, rfl⟩ ⟨rfl, rfl⟩ rfl rfl rfl (tX5_note h.2.1.1 ho.1) (fun t_23 h_23 => ?_)
      obtain ⟨n1, n2, n3, n4, n5, n6, n7⟩ := h_23
      refine za_aload_n (pc := 26) dX5_waitNoMore_26 rfl ?_
      refine za_getR (pc := 27) dX5_waitNoMore_27 lk_X5_24 rfl rfl ?_
      refine za_iload_n (pc := 30) dX5_waitNoMore_30 rfl ?_
      refine za_dup2 (pc := 31) dX5_waitNoMore_31 rfl rfl ?_
      refine za_iald (pc := 32) dX5_waitNoMore_32 rfl va ?_
      rw [ea, n1 7 (by decide) (by decide) (by decide), w7]
      refine za_iload_n (pc := 33) dX5_waitNoMore_33 rfl ?_
      refine za_cSN1i (pc := 34) (μ' := mX6_bit) dX5_waitNoMore_34 c_X5_49 rfl ⟨rfl, rfl⟩ ⟨rfl, rfl⟩ rfl rfl rfl (tX6_bit) (fun x_34 t_34 h_34 => ?_)
      obtain ⟨rfl, h9⟩ := h_34
      have h9 := h9.symm
      subst h9
      refine za_iconst (pc := 37) (-1) dX5_waitNoMore_37 (by decide) ?_
      refine za_ixor (pc := 38) dX5_waitNoMore_38 ?_
      rw [zm_1 (by omega)]
      refine za_iand (pc := 39) dX5_waitNoMore_39 ?_
      rw [zm_not]
      refine za_iast (pc := 40) dX5_waitNoMore_40 rfl va ?_
      refine za_iconst (pc := 41) (1) dX5_waitNoMore_41 (by decide) ?_
      refine za_ri (pc := 42) dX5_waitNoMore_42 rfl rfl rfl ?_
      rw [ea]
      exact Or.inr ⟨by simpa using hw, rfl, XJ_wait h ho ha n1 n2 n3 n4 n5 n6 n7 rfl⟩
    · exact absurd c10 (by decide)
theorem tX5_takeBack {σ : zSt} {m v : Nat} {H : Nat → Core} (h : XJ σ m H v) (ho : JOk m H) : zI mX5_takeBack [.ref 2] SH σ (fun x t => (m = 0 ∧ x = 0 ∧ t = σ) ∨ (m ≠ 0 ∧ x = 1 ∧ XJ t (m - 1) H (v + 1) ∧ FJ t σ)) := by
  obtain ⟨⟨c1, c2, c3, c4, c5⟩, ⟨hm, hh⟩, hv⟩ := h
  have hm20 := ho.1
  refine zI_of (ls := [some (.ref 2), none]) (by decide) rfl rfl ?_
  refine za_aload_n (pc := 0) dX5_takeBack_0 rfl ?_
  refine za_getI (pc := 1) dX5_takeBack_1 lk_X5_31 rfl rfl ?_
  rw [hm]
  refine za_if_ne (pc := 4) 9 dX5_takeBack_4 (by decide) (fun c4' => ?_) (fun c4' => ?_)
  · have hm0 : m ≠ 0 := fun e => c4' (by rw [e]; rfl)
    obtain ⟨p, rfl⟩ : ∃ p, m = p + 1 := ⟨m - 1, by omega⟩
    have hu := hh p (by omega)
    have hpv := ho.2 p (by omega)
    have hnx := ho.2 (p + 1) (by omega)
    rw [Nat.add_sub_cancel]
    refine za_aload_n (pc := 9) dX5_takeBack_9 rfl ?_
    refine za_dup (pc := 10) dX5_takeBack_10 rfl ?_
    refine za_getI (pc := 11) dX5_takeBack_11 lk_X5_31 rfl rfl ?_
    refine za_iconst (pc := 14) (1) dX5_takeBack_14 (by decide) ?_
    refine za_isub (pc := 15) dX5_takeBack_15 ?_
    refine za_putI (pc := 16) dX5_takeBack_16 lp_X5_31 rfl rfl ?_
    refine za_aload_n (pc := 19) dX5_takeBack_19 rfl ?_
    refine za_dup (pc := 20) dX5_takeBack_20 rfl ?_
    refine za_getI (pc := 21) dX5_takeBack_21 lk_X5_34 rfl rfl ?_
    refine za_iconst (pc := 24) (1) dX5_takeBack_24 (by decide) ?_
    refine za_iadd (pc := 25) dX5_takeBack_25 ?_
    refine za_putI (pc := 26) dX5_takeBack_26 lp_X5_34 rfl rfl ?_
    refine za_aload_n (pc := 29) dX5_takeBack_29 rfl ?_
    refine za_getR (pc := 30) dX5_takeBack_30 lk_X5_37 rfl rfl ?_
    refine za_aload_n (pc := 33) dX5_takeBack_33 rfl ?_
    refine za_getI (pc := 34) dX5_takeBack_34 lk_X5_31 rfl rfl ?_
    have e6 : zup (zup σ 2 6 (σ 2 6 - 1)) 2 7 (zup σ 2 6 (σ 2 6 - 1) 2 7 + 1) = zup (zup σ 2 6 (nI p)) 2 7 (nI (v + 1)) := by rw [hm, nI_pred, zup_b (by decide), hv, nI_1]
    rw [e6]
    have e7 : zup (zup σ 2 6 (nI p)) 2 7 (nI (v + 1)) 2 6 = nI p := by rw [zup_b (by decide), zup_a]
    rw [e7]
    refine za_iald (pc := 37) dX5_takeBack_37 rfl (vp_in_nI (show p < 20 by omega) (by decide)) ?_
    refine za_is1n (pc := 38) dX5_takeBack_38 rfl ?_
    refine za_iload_n (pc := 39) dX5_takeBack_39 rfl ?_
    refine za_bipush (pc := 40) (10) dX5_takeBack_40 (by decide) ?_
    rw [nI_clamp (by omega), zup_n (by decide), zup_n (by decide)]
    have hist : ∀ u : zSt, u 2 6 = nI p → (∀ i, u 8 i = σ 8 i) → (∀ i, u 9 i = σ 9 i) → XHist u p H := fun u u1 u2 u3 => ⟨u1, fun k hk => by rw [u2, u3]; exact hh k (by omega)⟩
    refine za_icmp_ne (pc := 42) 58 dX5_takeBack_42 (by decide) (fun c42 => ?_) (fun c42 => ?_)
    · rcases hu with ⟨hj, -⟩ | ⟨q, hq, hj, hw, hn, hr⟩
      · exact absurd hj c42
      · rw [hj]
        refine za_aload_n (pc := 58) dX5_takeBack_58 rfl ?_
        refine za_getR (pc := 59) dX5_takeBack_59 lk_X5_24 rfl rfl ?_
        refine za_iload_n (pc := 62) dX5_takeBack_62 rfl ?_
        refine za_aload_n (pc := 63) dX5_takeBack_63 rfl ?_
        refine za_getR (pc := 64) dX5_takeBack_64 lk_X5_40 rfl rfl ?_
        refine za_aload_n (pc := 67) dX5_takeBack_67 rfl ?_
        refine za_getI (pc := 68) dX5_takeBack_68 lk_X5_31 rfl rfl ?_
        rw [e7]
        refine za_iald (pc := 71) dX5_takeBack_71 rfl (vp_in_nI (show p < 20 by omega) (by decide)) ?_
        have e8 : zup (zup σ 2 6 (nI p)) 2 7 (nI (v + 1)) 9 (nI p).toNatClampNeg = zmask (cW (H p) q) := by rw [nI_clamp (by omega), zup_n (by decide), zup_n (by decide), hw]
        rw [e8]
        refine za_iast (pc := 72) dX5_takeBack_72 rfl (vp_in_nI (show q < 10 by have := hpv.1; omega) (by decide)) ?_
        refine za_iconst (pc := 73) (1) dX5_takeBack_73 (by decide) ?_
        refine za_rz (pc := 74) dX5_takeBack_74 rfl rfl rfl rfl ?_
        rw [nI_clamp (show q < 2 ^ 31 by have := hpv.1; omega)]
        have r : ∀ c, c ≠ 2 → c ≠ 7 → zup (zup (zup σ 2 6 (nI p)) 2 7 (nI (v + 1))) 7 q (zmask (cW (H p) q)) c = σ c := fun c h2 h7 => by rw [zup_n h7, zup_n h2, zup_n h2]
        refine Or.inr ⟨hm0, rfl, ⟨⟨?_, fun a ha => ?_, ?_, ?_, ?_⟩, hist _ ?_ (fun i => by rw [r 8 (by decide) (by decide)]) (fun i => by rw [r 9 (by decide) (by decide)]), ?_⟩, fun c hc => r c (by omega) (by omega)⟩
        · rw [zup_n (by decide), zup_b (by decide), zup_b (by decide), c1, hn]
        · obtain ⟨a1, a2, a3, a4, a5⟩ := c2 a (by omega)
          obtain ⟨b1, b2, b3, b4, b5⟩ := hr a ha
          rw [r 3 (by decide) (by decide), r 4 (by decide) (by decide), r 5 (by decide) (by decide), r 6 (by decide) (by decide)]
          refine ⟨a1.trans b1, by rw [a2, b2], by rw [a3, b3], a4.trans b4, ?_⟩
          by_cases e : a = q
          · rw [e, zup_a]
          · rw [zup_b e, zup_n (by decide), zup_n (by decide), a5]
            exact zm_cong (b5 e)
        · rw [r 4 (by decide) (by decide)]; exact c3
        · rw [r 5 (by decide) (by decide)]; exact c4
        · rw [r 6 (by decide) (by decide)]; exact c5
        · rw [zup_n (by decide), zup_b (by decide), zup_a]
        · rw [zup_n (by decide), zup_a]
    · rcases hu with ⟨hj, hn, hr⟩ | ⟨q, hq, hj, hw, hn, hr⟩
      · refine za_aload_n (pc := 45) dX5_takeBack_45 rfl ?_
        refine za_dup (pc := 46) dX5_takeBack_46 rfl ?_
        refine za_getI (pc := 47) dX5_takeBack_47 lk_X5_27 rfl rfl ?_
        refine za_iconst (pc := 50) (1) dX5_takeBack_50 (by decide) ?_
        refine za_isub (pc := 51) dX5_takeBack_51 ?_
        refine za_putI (pc := 52) dX5_takeBack_52 lp_X5_27 rfl rfl ?_
        refine za_goto (pc := 55) 73 dX5_takeBack_55 (by decide) ?_
        refine za_iconst (pc := 73) (1) dX5_takeBack_73 (by decide) ?_
        refine za_rz (pc := 74) dX5_takeBack_74 rfl rfl rfl rfl ?_
        have e9 : zup (zup σ 2 6 (nI p)) 2 7 (nI (v + 1)) 2 5 = nI (cN (H p) + 1) := by rw [zup_b (by decide), zup_b (by decide), c1, hn]
        rw [e9, nI_pred]
        have r : ∀ c, c ≠ 2 → zup (zup (zup σ 2 6 (nI p)) 2 7 (nI (v + 1))) 2 5 (nI (cN (H p))) c = σ c := fun c h2 => by rw [zup_n h2, zup_n h2, zup_n h2]
        refine Or.inr ⟨hm0, rfl, ⟨⟨?_, fun a ha => ?_, ?_, ?_, ?_⟩, hist _ ?_ (fun i => by rw [r 8 (by decide)]) (fun i => by rw [r 9 (by decide)]), ?_⟩, fun c hc => r c (by omega)⟩
        · rw [zup_a]
        · obtain ⟨a1, a2, a3, a4, a5⟩ := c2 a (by omega)
          obtain ⟨b1, b2, b3, b4, b5⟩ := hr a ha
          rw [r 3 (by decide), r 4 (by decide), r 5 (by decide), r 6 (by decide), r 7 (by decide)]
          exact ⟨a1.trans b1, by rw [a2, b2], by rw [a3, b3], a4.trans b4, a5.trans (zm_cong b5)⟩
        · rw [r 4 (by decide)]; exact c3
        · rw [r 5 (by decide)]; exact c4
        · rw [r 6 (by decide)]; exact c5
        · rw [zup_b (by decide), zup_b (by decide), zup_a]
        · rw [zup_b (by decide), zup_a]
      · have := hpv.1
        rw [hj] at c42
        exact absurd ((nI_eq (b := 10) (by omega) (by decide)).mp c42) (by omega)
  · have hm0 : m = 0 := (nI_eq (by omega) (by decide)).mp c4'
    refine za_iconst (pc := 7) (0) dX5_takeBack_7 (by decide) ?_
    refine za_rz (pc := 8) dX5_takeBack_8 rfl rfl rfl rfl ?_
    exact Or.inl ⟨hm0, rfl, rfl⟩
theorem tX6_isBound {S : List zSh} {σ : zSt} {a : Int32} : zI mX6_isBound [.int a] S σ (fun x t => x = (if isHr a then 1 else 0) ∧ t = σ) := by
  refine zI_of (ls := [some (.int a)]) (by decide) rfl rfl ?_
  refine za_iload_n (pc := 0) dX6_isBound_0 rfl ?_
  refine za_iconst (pc := 1) (1) dX6_isBound_1 (by decide) ?_
  refine za_icmp_lt (pc := 2) 15 dX6_isBound_2 (by decide) (fun c2 => ?_) (fun c2 => ?_)
  · refine za_iconst (pc := 15) (0) dX6_isBound_15 (by decide) ?_
    refine za_rz (pc := 16) dX6_isBound_16 rfl rfl rfl rfl ?_
    exact ⟨(if_neg (fun q => absurd q.1 (Int32.not_le.mpr c2))).symm, rfl⟩
  · refine za_iload_n (pc := 5) dX6_isBound_5 rfl ?_
    refine za_bipush (pc := 6) (40) dX6_isBound_6 (by decide) ?_
    refine za_icmp_gt (pc := 8) 15 dX6_isBound_8 (by decide) (fun c8 => ?_) (fun c8 => ?_)
    · refine za_iconst (pc := 15) (0) dX6_isBound_15 (by decide) ?_
      refine za_rz (pc := 16) dX6_isBound_16 rfl rfl rfl rfl ?_
      exact ⟨(if_neg (fun q => absurd q.2 (Int32.not_le.mpr c8))).symm, rfl⟩
    · refine za_iconst (pc := 11) (1) dX6_isBound_11 (by decide) ?_
      refine za_goto (pc := 12) 16 dX6_isBound_12 (by decide) ?_
      refine za_rz (pc := 16) dX6_isBound_16 rfl rfl rfl rfl ?_
      exact ⟨(if_pos ⟨Int32.not_lt.mp c2, Int32.not_lt.mp c8⟩).symm, rfl⟩
theorem tX6_isKind {S : List zSh} {σ : zSt} {k a b : Int32} : zI mX6_isKind [.int k, .int a, .int b] S σ (fun x t => x = (if kdOk k a b then 1 else 0) ∧ t = σ) := by
  refine zI_of (ls := [some (.int k), some (.int a), some (.int b)]) (by decide) rfl rfl ?_
  refine za_iload_n (pc := 0) dX6_isKind_0 rfl ?_
  by_cases h0 : k = 0
  · subst h0
    refine za_tableIn (pc := 1) (off := 31) 32 dX6_isKind_1 (by decide) (by decide) (by decide) (by decide) ?_
    refine za_iconst (pc := 32) (1) dX6_isKind_32 (by decide) ?_
    refine za_rz (pc := 33) dX6_isKind_33 rfl rfl rfl rfl ?_
    exact ⟨(if_pos (Or.inl rfl)).symm, rfl⟩
  by_cases h1 : k = 1
  · subst h1
    refine za_tableIn (pc := 1) (off := 33) 34 dX6_isKind_1 (by decide) (by decide) (by decide) (by decide) ?_
    refine za_iload_n (pc := 34) dX6_isKind_34 rfl ?_
    refine za_cS1i (pc := 35) (μ' := mX6_isBound) dX6_isKind_35 c_X6_178 rfl ⟨rfl, rfl⟩ ⟨rfl, rfl⟩ rfl rfl rfl (tX6_isBound) (fun x_35 t_35 h_35 => ?_)
    obtain ⟨rfl, h9⟩ := h_35
    have h9 := h9.symm
    subst h9
    refine za_rz (pc := 38) dX6_isKind_38 rfl rfl rfl (by split <;> rfl) ?_
    refine ⟨?_, rfl⟩
    have : kdOk 1 a b ↔ isHr a := ⟨fun q => by
      rcases q with q | q | q | q
      · exact absurd q (by decide)
      · exact q.2
      · exact absurd q.1 (by decide)
      · exact absurd q.1 (by decide), fun q => Or.inr (Or.inl ⟨rfl, q⟩)⟩
    simp only [this]
  by_cases h2 : k = 2
  · subst h2
    have iff2 : kdOk 2 a b ↔ isHr a ∧ isHr b ∧ a ≤ b := ⟨fun q => by
      rcases q with q | q | q | q
      · exact absurd q (by decide)
      · exact absurd q.1 (by decide)
      · exact q.2
      · exact absurd q.1 (by decide), fun q => Or.inr (Or.inr (Or.inl ⟨rfl, q⟩))⟩
    refine za_tableIn (pc := 1) (off := 38) 39 dX6_isKind_1 (by decide) (by decide) (by decide) (by decide) ?_
    refine za_iload_n (pc := 39) dX6_isKind_39 rfl ?_
    refine za_cS1i (pc := 40) (μ' := mX6_isBound) dX6_isKind_40 c_X6_178 rfl ⟨rfl, rfl⟩ ⟨rfl, rfl⟩ rfl rfl rfl (tX6_isBound) (fun x_40 t_40 h_40 => ?_)
    obtain ⟨rfl, h9⟩ := h_40
    have h9 := h9.symm
    subst h9
    by_cases ha : isHr a
    · rw [if_pos ha]
      refine za_if_eq (pc := 43) 62 dX6_isKind_43 (by decide) (fun c43 => ?_) (fun c43 => ?_)
      · exact absurd c43 (by decide)
      refine za_iload_n (pc := 46) dX6_isKind_46 rfl ?_
      refine za_cS1i (pc := 47) (μ' := mX6_isBound) dX6_isKind_47 c_X6_178 rfl ⟨rfl, rfl⟩ ⟨rfl, rfl⟩ rfl rfl rfl (tX6_isBound) (fun x_47 t_47 h_47 => ?_)
      obtain ⟨rfl, h9⟩ := h_47
      have h9 := h9.symm
      subst h9
      by_cases hb : isHr b
      · rw [if_pos hb]
        refine za_if_eq (pc := 50) 62 dX6_isKind_50 (by decide) (fun c50 => ?_) (fun c50 => ?_)
        · exact absurd c50 (by decide)
        refine za_iload_n (pc := 53) dX6_isKind_53 rfl ?_
        refine za_iload_n (pc := 54) dX6_isKind_54 rfl ?_
        refine za_icmp_gt (pc := 55) 62 dX6_isKind_55 (by decide) (fun c55 => ?_) (fun c55 => ?_)
        · refine za_iconst (pc := 62) (0) dX6_isKind_62 (by decide) ?_
          refine za_rz (pc := 63) dX6_isKind_63 rfl rfl rfl rfl ?_
          exact ⟨(if_neg (fun q => absurd (iff2.mp q).2.2 (Int32.not_le.mpr c55))).symm, rfl⟩
        · refine za_iconst (pc := 58) (1) dX6_isKind_58 (by decide) ?_
          refine za_goto (pc := 59) 63 dX6_isKind_59 (by decide) ?_
          refine za_rz (pc := 63) dX6_isKind_63 rfl rfl rfl rfl ?_
          exact ⟨(if_pos (iff2.mpr ⟨ha, hb, Int32.not_lt.mp c55⟩)).symm, rfl⟩
      · rw [if_neg hb]
        refine za_if_eq (pc := 50) 62 dX6_isKind_50 (by decide) (fun c50 => ?_) (fun c50 => ?_)
        · refine za_iconst (pc := 62) (0) dX6_isKind_62 (by decide) ?_
          refine za_rz (pc := 63) dX6_isKind_63 rfl rfl rfl rfl ?_
          exact ⟨(if_neg (fun q => hb (iff2.mp q).2.1)).symm, rfl⟩
        · exact absurd rfl c50
    · rw [if_neg ha]
      refine za_if_eq (pc := 43) 62 dX6_isKind_43 (by decide) (fun c43 => ?_) (fun c43 => ?_)
      · refine za_iconst (pc := 62) (0) dX6_isKind_62 (by decide) ?_
        refine za_rz (pc := 63) dX6_isKind_63 rfl rfl rfl rfl ?_
        exact ⟨(if_neg (fun q => ha (iff2.mp q).1)).symm, rfl⟩
      · exact absurd rfl c43
  by_cases h3 : k = 3
  · subst h3
    have iff3 : kdOk 3 a b ↔ a = 0 ∨ a = 1 := ⟨fun q => by
      rcases q with q | q | q | q
      · exact absurd q (by decide)
      · exact absurd q.1 (by decide)
      · exact absurd q.1 (by decide)
      · exact q.2, fun q => Or.inr (Or.inr (Or.inr ⟨rfl, q⟩))⟩
    refine za_tableIn (pc := 1) (off := 63) 64 dX6_isKind_1 (by decide) (by decide) (by decide) (by decide) ?_
    refine za_iload_n (pc := 64) dX6_isKind_64 rfl ?_
    refine za_if_eq (pc := 65) 73 dX6_isKind_65 (by decide) (fun c65 => ?_) (fun c65 => ?_)
    · refine za_iconst (pc := 73) (1) dX6_isKind_73 (by decide) ?_
      refine za_goto (pc := 74) 78 dX6_isKind_74 (by decide) ?_
      refine za_rz (pc := 78) dX6_isKind_78 rfl rfl rfl rfl ?_
      exact ⟨(if_pos (iff3.mpr (Or.inl c65))).symm, rfl⟩
    · refine za_iload_n (pc := 68) dX6_isKind_68 rfl ?_
      refine za_iconst (pc := 69) (1) dX6_isKind_69 (by decide) ?_
      refine za_icmp_ne (pc := 70) 77 dX6_isKind_70 (by decide) (fun c70 => ?_) (fun c70 => ?_)
      · refine za_iconst (pc := 77) (0) dX6_isKind_77 (by decide) ?_
        refine za_rz (pc := 78) dX6_isKind_78 rfl rfl rfl rfl ?_
        exact ⟨(if_neg (fun q => (iff3.mp q).elim c65 c70)).symm, rfl⟩
      · refine za_iconst (pc := 73) (1) dX6_isKind_73 (by decide) ?_
        refine za_goto (pc := 74) 78 dX6_isKind_74 (by decide) ?_
        refine za_rz (pc := 78) dX6_isKind_78 rfl rfl rfl rfl ?_
        exact ⟨(if_pos (iff3.mpr (Or.inr c70))).symm, rfl⟩
  have hout : k.toInt < 0 ∨ 3 < k.toInt := by
    rw [fa_eq] at h0 h1 h2 h3
    have e0 : (0 : Int32).toInt = 0 := rfl
    have e1 : (1 : Int32).toInt = 1 := rfl
    have e2 : (2 : Int32).toInt = 2 := rfl
    have e3 : (3 : Int32).toInt = 3 := rfl
    omega
  refine za_tableOut (pc := 1) 79 dX6_isKind_1 hout (by decide) ?_
  refine za_iconst (pc := 79) (0) dX6_isKind_79 (by decide) ?_
  refine za_rz (pc := 80) dX6_isKind_80 rfl rfl rfl rfl ?_
  refine ⟨(if_neg (fun q => ?_)).symm, rfl⟩
  rcases q with q | q | q | q
  · exact h0 q
  · exact h1 q.1
  · exact h2 q.1
  · exact h3 q.1
/-- job(): what it answers and leaves -/
def spJob (m : Nat) (H : Nat → Core) (k a b : Int32) : Int32 := if kdOk k a b then (if cN (H m) < 10 then nI (cN (H m)) else -2) else -1
theorem tX6_job {σ : zSt} {m v : Nat} {H : Nat → Core} {k a b : Int32} (h : XJ σ m H v) (ho : JOk m H) : zI mX6_job [.ref 0, .int k, .int a, .int b] SH σ (fun x t => x = spJob m H k a b ∧ ((kdOk k a b ∧ cN (H m) < 10 ∧ XJ t (pushN m) (pushH m H (addC (H m) k a b)) (v + 1) ∧ FJ t σ) ∨ (¬ (kdOk k a b ∧ cN (H m) < 10) ∧ t = σ))) := by
  have hn : cN (H m) ≤ 10 := (ho.2 m (Nat.le_refl m)).1
  refine zI_of (ls := [some (.ref 0), some (.int k), some (.int a), some (.int b)]) (by decide) rfl rfl ?_
  refine za_iload_n (pc := 0) dX6_job_0 rfl ?_
  refine za_iload_n (pc := 1) dX6_job_1 rfl ?_
  refine za_iload_n (pc := 2) dX6_job_2 rfl ?_
  refine za_cS3i (pc := 3) (μ' := mX6_isKind) dX6_job_3 c_X6_94 rfl ⟨rfl, rfl⟩ ⟨rfl, rfl⟩ rfl rfl rfl (tX6_isKind) (fun x_3 t_3 h_3 => ?_)
  obtain ⟨rfl, h9⟩ := h_3
  have h9 := h9.symm
  subst h9
  by_cases hk : kdOk k a b
  · rw [if_pos hk]
    refine za_if_ne (pc := 6) 11 dX6_job_6 (by decide) (fun c6 => ?_) (fun c6 => ?_)
    · refine za_aload_n (pc := 11) dX6_job_11 rfl ?_
      refine za_getR (pc := 12) dX6_job_12 lk_X6_18 rfl rfl ?_
      refine za_getI (pc := 15) dX6_job_15 lk_X6_98 rfl rfl ?_
      refine za_bipush (pc := 18) (10) dX6_job_18 (by decide) ?_
      rw [h.1.1]
      refine za_icmp_ge (pc := 20) 36 dX6_job_20 (by decide) (fun c20 => ?_) (fun c20 => ?_)
      · have h10 : ¬ cN (H m) < 10 := fun q => absurd c20 (nI_ge q (by decide))
        refine za_bipush (pc := 36) (-2) dX6_job_36 (by decide) ?_
        refine za_ri (pc := 38) dX6_job_38 rfl rfl rfl ?_
        exact ⟨by rw [spJob, if_pos hk, if_neg h10], Or.inr ⟨fun q => h10 q.2, rfl⟩⟩
      · have h10 : cN (H m) < 10 := Nat.lt_of_not_le (fun q => c20 (nI_le (a := 10) q (by omega)))
        refine za_aload_n (pc := 23) dX6_job_23 rfl ?_
        refine za_getR (pc := 24) dX6_job_24 lk_X6_18 rfl rfl ?_
        refine za_iload_n (pc := 27) dX6_job_27 rfl ?_
        refine za_iload_n (pc := 28) dX6_job_28 rfl ?_
        refine za_iload_n (pc := 29) dX6_job_29 rfl ?_
        refine za_cV3i (pc := 30) (μ' := mX5_add) dX6_job_30 c_X6_101 rfl rfl rfl ⟨rfl, rfl⟩ ⟨rfl, rfl⟩ rfl rfl rfl (tX5_add h ho h10 hk) (fun x_30 t_30 h_30 => ?_)
        obtain ⟨rfl, q1, q2⟩ := h_30
        refine za_goto (pc := 33) 38 dX6_job_33 (by decide) ?_
        refine za_ri (pc := 38) dX6_job_38 rfl rfl rfl ?_
        exact ⟨by rw [spJob, if_pos hk, if_pos h10], Or.inl ⟨hk, h10, q1, q2⟩⟩
    · exact absurd c6 (by decide)
  · rw [if_neg hk]
    refine za_if_ne (pc := 6) 11 dX6_job_6 (by decide) (fun c6 => ?_) (fun c6 => ?_)
    · exact absurd rfl c6
    · refine za_iconst (pc := 9) (-1) dX6_job_9 (by decide) ?_
      refine za_ri (pc := 10) dX6_job_10 rfl rfl rfl ?_
      exact ⟨by rw [spJob, if_neg hk], Or.inr ⟨fun q => hk q.1, rfl⟩⟩
abbrev isJb (n : Nat) (a : Int32) : Prop := 0 ≤ a ∧ a < nI n
theorem isJb_ix {n : Nat} {a : Int32} (h : isJb n a) (hn : n ≤ 10) : ∃ j, j < n ∧ a = nI j := zix h.1 h.2 (by omega)
theorem tX6_free {σ : zSt} {m v : Nat} {H : Nat → Core} {a b : Int32} (h : XJ σ m H v) (ho : JOk m H) : zI mX6_free [.ref 0, .int a, .int b] SH σ (fun x t => (¬ (isJb (cN (H m)) a ∧ isJb (cN (H m)) b) ∧ x = -1 ∧ t = σ) ∨ ∃ p q, p < cN (H m) ∧ q < cN (H m) ∧ a = nI p ∧ b = nI q ∧ ((cW (H m) p q = false ∧ x = 0 ∧ t = σ) ∨ (cW (H m) p q = true ∧ x = 1 ∧ XJ t (pushN m) (pushH m H (wC (H m) p (fun i => cW (H m) p i && !decide (i = q)))) (v + 1) ∧ FJ t σ))) := by
  have hn : cN (H m) ≤ 10 := (ho.2 m (Nat.le_refl m)).1
  refine zI_of (ls := [some (.ref 0), some (.int a), some (.int b)]) (by decide) rfl rfl ?_
  refine za_aload_n (pc := 0) dX6_free_0 rfl ?_
  refine za_getR (pc := 1) dX6_free_1 lk_X6_18 rfl rfl ?_
  refine za_iload_n (pc := 4) dX6_free_4 rfl ?_
  refine za_cV1i (pc := 5) (μ' := mX5_has) dX6_free_5 c_X6_105 rfl rfl rfl ⟨rfl, rfl⟩ ⟨rfl, rfl⟩ rfl rfl rfl (tX5_has h.1.1) (fun x_5 t_5 h_5 => ?_)
  obtain ⟨rfl, h9⟩ := h_5
  have h9 := h9.symm
  subst h9
  by_cases ha : isJb (cN (H m)) a
  · rw [if_pos ha]
    refine za_if_eq (pc := 8) 22 dX6_free_8 (by decide) (fun c8 => ?_) (fun c8 => ?_)
    · exact absurd c8 (by decide)
    refine za_aload_n (pc := 11) dX6_free_11 rfl ?_
    refine za_getR (pc := 12) dX6_free_12 lk_X6_18 rfl rfl ?_
    refine za_iload_n (pc := 15) dX6_free_15 rfl ?_
    refine za_cV1i (pc := 16) (μ' := mX5_has) dX6_free_16 c_X6_105 rfl rfl rfl ⟨rfl, rfl⟩ ⟨rfl, rfl⟩ rfl rfl rfl (tX5_has h.1.1) (fun x_16 t_16 h_16 => ?_)
    obtain ⟨rfl, h9⟩ := h_16
    have h9 := h9.symm
    subst h9
    by_cases hb : isJb (cN (H m)) b
    · rw [if_pos hb]
      refine za_if_ne (pc := 19) 24 dX6_free_19 (by decide) (fun c19 => ?_) (fun c19 => ?_)
      · obtain ⟨p, hp, rfl⟩ := isJb_ix ha hn
        obtain ⟨q, hq, rfl⟩ := isJb_ix hb hn
        refine za_aload_n (pc := 24) dX6_free_24 rfl ?_
        refine za_getR (pc := 25) dX6_free_25 lk_X6_18 rfl rfl ?_
        refine za_iload_n (pc := 28) dX6_free_28 rfl ?_
        refine za_iload_n (pc := 29) dX6_free_29 rfl ?_
        refine za_cV2i (pc := 30) (μ' := mX5_waitNoMore) dX6_free_30 c_X6_123 rfl rfl rfl ⟨rfl, rfl⟩ ⟨rfl, rfl⟩ rfl rfl rfl (tX5_waitNoMore h ho hp hq) (fun x_30 t_30 h_30 => ?_)
        refine za_ri (pc := 33) dX6_free_33 rfl rfl rfl ?_
        exact Or.inr ⟨p, q, hp, hq, rfl, rfl, h_30⟩
      · exact absurd c19 (by decide)
    · rw [if_neg hb]
      refine za_if_ne (pc := 19) 24 dX6_free_19 (by decide) (fun c19 => ?_) (fun c19 => ?_)
      · exact absurd rfl c19
      · refine za_iconst (pc := 22) (-1) dX6_free_22 (by decide) ?_
        refine za_ri (pc := 23) dX6_free_23 rfl rfl rfl ?_
        exact Or.inl ⟨fun q => hb q.2, rfl, rfl⟩
  · rw [if_neg ha]
    refine za_if_eq (pc := 8) 22 dX6_free_8 (by decide) (fun c8 => ?_) (fun c8 => ?_)
    · refine za_iconst (pc := 22) (-1) dX6_free_22 (by decide) ?_
      refine za_ri (pc := 23) dX6_free_23 rfl rfl rfl ?_
      exact Or.inl ⟨fun q => ha q.1, rfl, rfl⟩
    · exact absurd rfl c8
theorem tX6_undo {σ : zSt} {m v : Nat} {H : Nat → Core} (h : XJ σ m H v) (ho : JOk m H) : zI mX6_undo [.ref 0] SH σ (fun x t => (m = 0 ∧ x = -3 ∧ t = σ) ∨ (m ≠ 0 ∧ x = 1 ∧ XJ t (m - 1) H (v + 1) ∧ FJ t σ)) := by
  refine zI_of (ls := [some (.ref 0)]) (by decide) rfl rfl ?_
  refine za_aload_n (pc := 0) dX6_undo_0 rfl ?_
  refine za_getR (pc := 1) dX6_undo_1 lk_X6_18 rfl rfl ?_
  refine za_cV0i (pc := 4) (μ' := mX5_takeBack) dX6_undo_4 c_X6_175 rfl rfl rfl ⟨rfl, rfl⟩ ⟨rfl, rfl⟩ rfl rfl rfl (tX5_takeBack h ho) (fun x_4 t_4 h_4 => ?_)
  rcases h_4 with ⟨q1, rfl, rfl⟩ | ⟨q1, rfl, q2, q3⟩
  · refine za_if_eq (pc := 7) 14 dX6_undo_7 (by decide) (fun c7 => ?_) (fun c7 => ?_)
    · refine za_bipush (pc := 14) (-3) dX6_undo_14 (by decide) ?_
      refine za_ri (pc := 16) dX6_undo_16 rfl rfl rfl ?_
      exact Or.inl ⟨q1, rfl, rfl⟩
    · exact absurd rfl c7
  · refine za_if_eq (pc := 7) 14 dX6_undo_7 (by decide) (fun c7 => ?_) (fun c7 => ?_)
    · exact absurd c7 (by decide)
    · refine za_iconst (pc := 10) (1) dX6_undo_10 (by decide) ?_
      refine za_goto (pc := 11) 16 dX6_undo_11 (by decide) ?_
      refine za_ri (pc := 16) dX6_undo_16 rfl rfl rfl ?_
      exact Or.inr ⟨q1, rfl, q2, q3⟩
end

-- ===== PART A: goes FIRST, ahead of the names: the tables' words, and 'selects' of the private methods out of them =====
/-- a private method of a class that the tables say can be made, by its rows of tables_1 -/
def lw_okq (q : MethodName × Nat) : Prop := (q.1.cls ≠ "java/lang/invoke/MethodHandle" ∧ q.1.cls ≠ "java/lang/invoke/VarHandle") ∧ Cond.instantiable q.1.cls q.2 ∈ tables_1 ∧ Cond.privateMethod q.1 ∈ tables_1 ∧ Cond.instanceMethod q.1 ∈ tables_1
theorem lw_p0 : lw_okq (⟨"MorningBite$Pad", "addAct", "(III)V"⟩, 6) := ⟨⟨by decide +kernel, by decide +kernel⟩, List.mem_of_getElem? (i := 70) (by decide +kernel), List.mem_of_getElem? (i := 343) (by decide +kernel), List.mem_of_getElem? (i := 344) (by decide +kernel)⟩
theorem lw_p1 : lw_okq (⟨"MorningBite", "liveDays", "()I"⟩, 8) := ⟨⟨by decide +kernel, by decide +kernel⟩, List.mem_of_getElem? (i := 16) (by decide +kernel), List.mem_of_getElem? (i := 351) (by decide +kernel), List.mem_of_getElem? (i := 352) (by decide +kernel)⟩
theorem lw_p2 : lw_okq (⟨"MorningBite$Hill", "whyNotGive", "(II)I"⟩, 8) := ⟨⟨by decide +kernel, by decide +kernel⟩, List.mem_of_getElem? (i := 24) (by decide +kernel), List.mem_of_getElem? (i := 370) (by decide +kernel), List.mem_of_getElem? (i := 371) (by decide +kernel)⟩
theorem lw_p3 : lw_okq (⟨"MorningBite$Hill", "wake", "()V"⟩, 8) := ⟨⟨by decide +kernel, by decide +kernel⟩, List.mem_of_getElem? (i := 24) (by decide +kernel), List.mem_of_getElem? (i := 383) (by decide +kernel), List.mem_of_getElem? (i := 384) (by decide +kernel)⟩
theorem lw_p4 : lw_okq (⟨"MorningBite$Days", "tellMorning", "()V"⟩, 8) := ⟨⟨by decide +kernel, by decide +kernel⟩, List.mem_of_getElem? (i := 101) (by decide +kernel), List.mem_of_getElem? (i := 398) (by decide +kernel), List.mem_of_getElem? (i := 399) (by decide +kernel)⟩
theorem lw_p5 : lw_okq (⟨"MorningBite$Days", "leastPass", "()I"⟩, 8) := ⟨⟨by decide +kernel, by decide +kernel⟩, List.mem_of_getElem? (i := 101) (by decide +kernel), List.mem_of_getElem? (i := 402) (by decide +kernel), List.mem_of_getElem? (i := 403) (by decide +kernel)⟩
theorem lw_p6 : lw_okq (⟨"MorningBite$Days", "hasPassed", "(II)Z"⟩, 8) := ⟨⟨by decide +kernel, by decide +kernel⟩, List.mem_of_getElem? (i := 101) (by decide +kernel), List.mem_of_getElem? (i := 407) (by decide +kernel), List.mem_of_getElem? (i := 408) (by decide +kernel)⟩
theorem lw_p7 : lw_okq (⟨"MorningBite", "refuseKeeping", "(IIII)I"⟩, 8) := ⟨⟨by decide +kernel, by decide +kernel⟩, List.mem_of_getElem? (i := 16) (by decide +kernel), List.mem_of_getElem? (i := 447) (by decide +kernel), List.mem_of_getElem? (i := 448) (by decide +kernel)⟩
theorem lw_p8 : lw_okq (⟨"MorningBite$Keeper", "seat", "(LMorningBite$Hill;I)V"⟩, 11) := ⟨⟨by decide +kernel, by decide +kernel⟩, List.mem_of_getElem? (i := 141) (by decide +kernel), List.mem_of_getElem? (i := 458) (by decide +kernel), List.mem_of_getElem? (i := 459) (by decide +kernel)⟩
theorem lw_p9 : lw_okq (⟨"MorningBite$Keeper", "listAges", "(LMorningBite$Hill;)V"⟩, 11) := ⟨⟨by decide +kernel, by decide +kernel⟩, List.mem_of_getElem? (i := 141) (by decide +kernel), List.mem_of_getElem? (i := 463) (by decide +kernel), List.mem_of_getElem? (i := 464) (by decide +kernel)⟩
theorem lw_p10 : lw_okq (⟨"MorningBite$Keeper", "listNext", "(LMorningBite$Hill;II)V"⟩, 11) := ⟨⟨by decide +kernel, by decide +kernel⟩, List.mem_of_getElem? (i := 141) (by decide +kernel), List.mem_of_getElem? (i := 467) (by decide +kernel), List.mem_of_getElem? (i := 468) (by decide +kernel)⟩
theorem lw_p11 : lw_okq (⟨"MorningBite$Keeper", "lastsRest", "(LMorningBite$Hill;III)Z"⟩, 11) := ⟨⟨by decide +kernel, by decide +kernel⟩, List.mem_of_getElem? (i := 141) (by decide +kernel), List.mem_of_getElem? (i := 471) (by decide +kernel), List.mem_of_getElem? (i := 472) (by decide +kernel)⟩
theorem lw_p12 : lw_okq (⟨"MorningBite$Keeper", "findAge", "(II)I"⟩, 11) := ⟨⟨by decide +kernel, by decide +kernel⟩, List.mem_of_getElem? (i := 141) (by decide +kernel), List.mem_of_getElem? (i := 476) (by decide +kernel), List.mem_of_getElem? (i := 477) (by decide +kernel)⟩
theorem lw_p13 : lw_okq (⟨"MorningBite$Keeper", "countDay", "(I)V"⟩, 11) := ⟨⟨by decide +kernel, by decide +kernel⟩, List.mem_of_getElem? (i := 141) (by decide +kernel), List.mem_of_getElem? (i := 480) (by decide +kernel), List.mem_of_getElem? (i := 481) (by decide +kernel)⟩
theorem lw_p14 : lw_okq (⟨"MorningBite$Keeper", "countOf", "(II)I"⟩, 11) := ⟨⟨by decide +kernel, by decide +kernel⟩, List.mem_of_getElem? (i := 141) (by decide +kernel), List.mem_of_getElem? (i := 484) (by decide +kernel), List.mem_of_getElem? (i := 485) (by decide +kernel)⟩
theorem lw_p15 : lw_okq (⟨"MorningBite$Keeper", "bestMeals", "(IIII)I"⟩, 11) := ⟨⟨by decide +kernel, by decide +kernel⟩, List.mem_of_getElem? (i := 141) (by decide +kernel), List.mem_of_getElem? (i := 488) (by decide +kernel), List.mem_of_getElem? (i := 489) (by decide +kernel)⟩
def lw_privs_1 : List (MethodName × Nat) := [(⟨"MorningBite$Pad", "addAct", "(III)V"⟩, 6), (⟨"MorningBite", "liveDays", "()I"⟩, 8), (⟨"MorningBite$Hill", "whyNotGive", "(II)I"⟩, 8), (⟨"MorningBite$Hill", "wake", "()V"⟩, 8), (⟨"MorningBite$Days", "tellMorning", "()V"⟩, 8), (⟨"MorningBite$Days", "leastPass", "()I"⟩, 8), (⟨"MorningBite$Days", "hasPassed", "(II)Z"⟩, 8), (⟨"MorningBite", "refuseKeeping", "(IIII)I"⟩, 8), (⟨"MorningBite$Keeper", "seat", "(LMorningBite$Hill;I)V"⟩, 11), (⟨"MorningBite$Keeper", "listAges", "(LMorningBite$Hill;)V"⟩, 11), (⟨"MorningBite$Keeper", "listNext", "(LMorningBite$Hill;II)V"⟩, 11), (⟨"MorningBite$Keeper", "lastsRest", "(LMorningBite$Hill;III)Z"⟩, 11), (⟨"MorningBite$Keeper", "findAge", "(II)I"⟩, 11), (⟨"MorningBite$Keeper", "countDay", "(I)V"⟩, 11), (⟨"MorningBite$Keeper", "countOf", "(II)I"⟩, 11), (⟨"MorningBite$Keeper", "bestMeals", "(IIII)I"⟩, 11)]
theorem lw_r1 : ∀ q ∈ lw_privs_1, lw_okq q := List.forall_mem_cons.mpr ⟨lw_p0, List.forall_mem_cons.mpr ⟨lw_p1, List.forall_mem_cons.mpr ⟨lw_p2, List.forall_mem_cons.mpr ⟨lw_p3, List.forall_mem_cons.mpr ⟨lw_p4, List.forall_mem_cons.mpr ⟨lw_p5, List.forall_mem_cons.mpr ⟨lw_p6, List.forall_mem_cons.mpr ⟨lw_p7, List.forall_mem_cons.mpr ⟨lw_p8, List.forall_mem_cons.mpr ⟨lw_p9, List.forall_mem_cons.mpr ⟨lw_p10, List.forall_mem_cons.mpr ⟨lw_p11, List.forall_mem_cons.mpr ⟨lw_p12, List.forall_mem_cons.mpr ⟨lw_p13, List.forall_mem_cons.mpr ⟨lw_p14, List.forall_mem_cons.mpr ⟨lw_p15, fun _ h => absurd h List.not_mem_nil⟩⟩⟩⟩⟩⟩⟩⟩⟩⟩⟩⟩⟩⟩⟩⟩
theorem lw_p16 : lw_okq (⟨"MorningBite$Keeper", "next", "(IIII)I"⟩, 11) := ⟨⟨by decide +kernel, by decide +kernel⟩, List.mem_of_getElem? (i := 141) (by decide +kernel), List.mem_of_getElem? (i := 492) (by decide +kernel), List.mem_of_getElem? (i := 493) (by decide +kernel)⟩
theorem lw_p17 : lw_okq (⟨"MorningBite$Keeper", "fewestFrom", "(IIII)I"⟩, 11) := ⟨⟨by decide +kernel, by decide +kernel⟩, List.mem_of_getElem? (i := 141) (by decide +kernel), List.mem_of_getElem? (i := 496) (by decide +kernel), List.mem_of_getElem? (i := 497) (by decide +kernel)⟩
theorem lw_p18 : lw_okq (⟨"MorningBite$Keeper", "walk", "()V"⟩, 11) := ⟨⟨by decide +kernel, by decide +kernel⟩, List.mem_of_getElem? (i := 141) (by decide +kernel), List.mem_of_getElem? (i := 508) (by decide +kernel), List.mem_of_getElem? (i := 509) (by decide +kernel)⟩
theorem lw_p19 : lw_okq (⟨"MorningBite$Shares", "share", "(LMorningBite$Hill;III)V"⟩, 3) := ⟨⟨by decide +kernel, by decide +kernel⟩, List.mem_of_getElem? (i := 183) (by decide +kernel), List.mem_of_getElem? (i := 520) (by decide +kernel), List.mem_of_getElem? (i := 521) (by decide +kernel)⟩
theorem lw_p20 : lw_okq (⟨"MorningBite$Shares", "addShare", "(II)V"⟩, 3) := ⟨⟨by decide +kernel, by decide +kernel⟩, List.mem_of_getElem? (i := 183) (by decide +kernel), List.mem_of_getElem? (i := 524) (by decide +kernel), List.mem_of_getElem? (i := 525) (by decide +kernel)⟩
theorem lw_p21 : lw_okq (⟨"MorningBite$Shares", "envies", "(LMorningBite$Hill;I)Z"⟩, 3) := ⟨⟨by decide +kernel, by decide +kernel⟩, List.mem_of_getElem? (i := 183) (by decide +kernel), List.mem_of_getElem? (i := 530) (by decide +kernel), List.mem_of_getElem? (i := 531) (by decide +kernel)⟩
theorem lw_p22 : lw_okq (⟨"MorningBite$Shares", "wronged", "(LMorningBite$Hill;II)Z"⟩, 3) := ⟨⟨by decide +kernel, by decide +kernel⟩, List.mem_of_getElem? (i := 183) (by decide +kernel), List.mem_of_getElem? (i := 534) (by decide +kernel), List.mem_of_getElem? (i := 535) (by decide +kernel)⟩
theorem lw_p23 : lw_okq (⟨"MorningBite$Sights", "fits", "(LMorningBite$Hill;I)Z"⟩, 3) := ⟨⟨by decide +kernel, by decide +kernel⟩, List.mem_of_getElem? (i := 201) (by decide +kernel), List.mem_of_getElem? (i := 565) (by decide +kernel), List.mem_of_getElem? (i := 566) (by decide +kernel)⟩
theorem lw_p24 : lw_okq (⟨"MorningBite", "toldOf", "(II)I"⟩, 8) := ⟨⟨by decide +kernel, by decide +kernel⟩, List.mem_of_getElem? (i := 16) (by decide +kernel), List.mem_of_getElem? (i := 657) (by decide +kernel), List.mem_of_getElem? (i := 658) (by decide +kernel)⟩
theorem lw_p25 : lw_okq (⟨"MorningBiteModel", "isOne", "(I)Z"⟩, 38) := ⟨⟨by decide +kernel, by decide +kernel⟩, List.mem_of_getElem? (i := 661) (by decide +kernel), List.mem_of_getElem? (i := 802) (by decide +kernel), List.mem_of_getElem? (i := 803) (by decide +kernel)⟩
theorem lw_p26 : lw_okq (⟨"MorningBiteModel", "readOn", "(II)I"⟩, 38) := ⟨⟨by decide +kernel, by decide +kernel⟩, List.mem_of_getElem? (i := 661) (by decide +kernel), List.mem_of_getElem? (i := 826) (by decide +kernel), List.mem_of_getElem? (i := 827) (by decide +kernel)⟩
theorem lw_p27 : lw_okq (⟨"MorningBiteModel", "close", "(II)I"⟩, 38) := ⟨⟨by decide +kernel, by decide +kernel⟩, List.mem_of_getElem? (i := 661) (by decide +kernel), List.mem_of_getElem? (i := 835) (by decide +kernel), List.mem_of_getElem? (i := 836) (by decide +kernel)⟩
theorem lw_p28 : lw_okq (⟨"MorningBiteModel", "refusal", "()I"⟩, 38) := ⟨⟨by decide +kernel, by decide +kernel⟩, List.mem_of_getElem? (i := 661) (by decide +kernel), List.mem_of_getElem? (i := 843) (by decide +kernel), List.mem_of_getElem? (i := 844) (by decide +kernel)⟩
theorem lw_p29 : lw_okq (⟨"MorningBiteModel", "keepNow", "()V"⟩, 38) := ⟨⟨by decide +kernel, by decide +kernel⟩, List.mem_of_getElem? (i := 661) (by decide +kernel), List.mem_of_getElem? (i := 847) (by decide +kernel), List.mem_of_getElem? (i := 848) (by decide +kernel)⟩
theorem lw_p30 : lw_okq (⟨"MorningBiteModel", "goDays", "()V"⟩, 38) := ⟨⟨by decide +kernel, by decide +kernel⟩, List.mem_of_getElem? (i := 661) (by decide +kernel), List.mem_of_getElem? (i := 852) (by decide +kernel), List.mem_of_getElem? (i := 853) (by decide +kernel)⟩
theorem lw_p31 : lw_okq (⟨"MorningBiteModel", "beginCount", "()V"⟩, 38) := ⟨⟨by decide +kernel, by decide +kernel⟩, List.mem_of_getElem? (i := 661) (by decide +kernel), List.mem_of_getElem? (i := 856) (by decide +kernel), List.mem_of_getElem? (i := 857) (by decide +kernel)⟩
def lw_privs_2 : List (MethodName × Nat) := [(⟨"MorningBite$Keeper", "next", "(IIII)I"⟩, 11), (⟨"MorningBite$Keeper", "fewestFrom", "(IIII)I"⟩, 11), (⟨"MorningBite$Keeper", "walk", "()V"⟩, 11), (⟨"MorningBite$Shares", "share", "(LMorningBite$Hill;III)V"⟩, 3), (⟨"MorningBite$Shares", "addShare", "(II)V"⟩, 3), (⟨"MorningBite$Shares", "envies", "(LMorningBite$Hill;I)Z"⟩, 3), (⟨"MorningBite$Shares", "wronged", "(LMorningBite$Hill;II)Z"⟩, 3), (⟨"MorningBite$Sights", "fits", "(LMorningBite$Hill;I)Z"⟩, 3), (⟨"MorningBite", "toldOf", "(II)I"⟩, 8), (⟨"MorningBiteModel", "isOne", "(I)Z"⟩, 38), (⟨"MorningBiteModel", "readOn", "(II)I"⟩, 38), (⟨"MorningBiteModel", "close", "(II)I"⟩, 38), (⟨"MorningBiteModel", "refusal", "()I"⟩, 38), (⟨"MorningBiteModel", "keepNow", "()V"⟩, 38), (⟨"MorningBiteModel", "goDays", "()V"⟩, 38), (⟨"MorningBiteModel", "beginCount", "()V"⟩, 38)]
theorem lw_r2 : ∀ q ∈ lw_privs_2, lw_okq q := List.forall_mem_cons.mpr ⟨lw_p16, List.forall_mem_cons.mpr ⟨lw_p17, List.forall_mem_cons.mpr ⟨lw_p18, List.forall_mem_cons.mpr ⟨lw_p19, List.forall_mem_cons.mpr ⟨lw_p20, List.forall_mem_cons.mpr ⟨lw_p21, List.forall_mem_cons.mpr ⟨lw_p22, List.forall_mem_cons.mpr ⟨lw_p23, List.forall_mem_cons.mpr ⟨lw_p24, List.forall_mem_cons.mpr ⟨lw_p25, List.forall_mem_cons.mpr ⟨lw_p26, List.forall_mem_cons.mpr ⟨lw_p27, List.forall_mem_cons.mpr ⟨lw_p28, List.forall_mem_cons.mpr ⟨lw_p29, List.forall_mem_cons.mpr ⟨lw_p30, List.forall_mem_cons.mpr ⟨lw_p31, fun _ h => absurd h List.not_mem_nil⟩⟩⟩⟩⟩⟩⟩⟩⟩⟩⟩⟩⟩⟩⟩⟩
theorem lw_p32 : lw_okq (⟨"MorningBiteModel", "whyNot", "(III)I"⟩, 38) := ⟨⟨by decide +kernel, by decide +kernel⟩, List.mem_of_getElem? (i := 661) (by decide +kernel), List.mem_of_getElem? (i := 860) (by decide +kernel), List.mem_of_getElem? (i := 861) (by decide +kernel)⟩
theorem lw_p33 : lw_okq (⟨"MorningBiteModel", "whyNotGive", "(II)I"⟩, 38) := ⟨⟨by decide +kernel, by decide +kernel⟩, List.mem_of_getElem? (i := 661) (by decide +kernel), List.mem_of_getElem? (i := 864) (by decide +kernel), List.mem_of_getElem? (i := 865) (by decide +kernel)⟩
theorem lw_p34 : lw_okq (⟨"MorningBiteModel", "happen", "(III)V"⟩, 38) := ⟨⟨by decide +kernel, by decide +kernel⟩, List.mem_of_getElem? (i := 661) (by decide +kernel), List.mem_of_getElem? (i := 868) (by decide +kernel), List.mem_of_getElem? (i := 869) (by decide +kernel)⟩
theorem lw_p35 : lw_okq (⟨"MorningBiteModel", "eat", "(II)V"⟩, 38) := ⟨⟨by decide +kernel, by decide +kernel⟩, List.mem_of_getElem? (i := 661) (by decide +kernel), List.mem_of_getElem? (i := 872) (by decide +kernel), List.mem_of_getElem? (i := 873) (by decide +kernel)⟩
theorem lw_p36 : lw_okq (⟨"MorningBiteModel", "passMorning", "()V"⟩, 38) := ⟨⟨by decide +kernel, by decide +kernel⟩, List.mem_of_getElem? (i := 661) (by decide +kernel), List.mem_of_getElem? (i := 876) (by decide +kernel), List.mem_of_getElem? (i := 877) (by decide +kernel)⟩
theorem lw_p37 : lw_okq (⟨"MorningBiteModel", "lookBehind", "(III)I"⟩, 38) := ⟨⟨by decide +kernel, by decide +kernel⟩, List.mem_of_getElem? (i := 661) (by decide +kernel), List.mem_of_getElem? (i := 880) (by decide +kernel), List.mem_of_getElem? (i := 881) (by decide +kernel)⟩
theorem lw_p38 : lw_okq (⟨"MorningBiteModel", "passing", "()I"⟩, 38) := ⟨⟨by decide +kernel, by decide +kernel⟩, List.mem_of_getElem? (i := 661) (by decide +kernel), List.mem_of_getElem? (i := 884) (by decide +kernel), List.mem_of_getElem? (i := 885) (by decide +kernel)⟩
theorem lw_p39 : lw_okq (⟨"MorningBiteModel", "oldestNow", "()I"⟩, 38) := ⟨⟨by decide +kernel, by decide +kernel⟩, List.mem_of_getElem? (i := 661) (by decide +kernel), List.mem_of_getElem? (i := 888) (by decide +kernel), List.mem_of_getElem? (i := 889) (by decide +kernel)⟩
theorem lw_p40 : lw_okq (⟨"MorningBiteModel", "back", "(I)I"⟩, 38) := ⟨⟨by decide +kernel, by decide +kernel⟩, List.mem_of_getElem? (i := 661) (by decide +kernel), List.mem_of_getElem? (i := 892) (by decide +kernel), List.mem_of_getElem? (i := 893) (by decide +kernel)⟩
theorem lw_p41 : lw_okq (⟨"MorningBiteModel", "planRefusal", "(IIII)I"⟩, 38) := ⟨⟨by decide +kernel, by decide +kernel⟩, List.mem_of_getElem? (i := 661) (by decide +kernel), List.mem_of_getElem? (i := 924) (by decide +kernel), List.mem_of_getElem? (i := 925) (by decide +kernel)⟩
theorem lw_p42 : lw_okq (⟨"MorningBiteModel", "findPlan", "(IIII)V"⟩, 38) := ⟨⟨by decide +kernel, by decide +kernel⟩, List.mem_of_getElem? (i := 661) (by decide +kernel), List.mem_of_getElem? (i := 930) (by decide +kernel), List.mem_of_getElem? (i := 931) (by decide +kernel)⟩
theorem lw_p43 : lw_okq (⟨"MorningBiteModel", "layAges", "(III)V"⟩, 38) := ⟨⟨by decide +kernel, by decide +kernel⟩, List.mem_of_getElem? (i := 661) (by decide +kernel), List.mem_of_getElem? (i := 934) (by decide +kernel), List.mem_of_getElem? (i := 935) (by decide +kernel)⟩
theorem lw_p44 : lw_okq (⟨"MorningBiteModel", "layAgeThen", "(IIII)V"⟩, 38) := ⟨⟨by decide +kernel, by decide +kernel⟩, List.mem_of_getElem? (i := 661) (by decide +kernel), List.mem_of_getElem? (i := 938) (by decide +kernel), List.mem_of_getElem? (i := 939) (by decide +kernel)⟩
theorem lw_p45 : lw_okq (⟨"MorningBiteModel", "ageAt", "(II)I"⟩, 38) := ⟨⟨by decide +kernel, by decide +kernel⟩, List.mem_of_getElem? (i := 661) (by decide +kernel), List.mem_of_getElem? (i := 942) (by decide +kernel), List.mem_of_getElem? (i := 943) (by decide +kernel)⟩
theorem lw_p46 : lw_okq (⟨"MorningBiteModel", "layHalves", "(II)V"⟩, 38) := ⟨⟨by decide +kernel, by decide +kernel⟩, List.mem_of_getElem? (i := 661) (by decide +kernel), List.mem_of_getElem? (i := 946) (by decide +kernel), List.mem_of_getElem? (i := 947) (by decide +kernel)⟩
theorem lw_p47 : lw_okq (⟨"MorningBiteModel", "manyAt", "(II)I"⟩, 38) := ⟨⟨by decide +kernel, by decide +kernel⟩, List.mem_of_getElem? (i := 661) (by decide +kernel), List.mem_of_getElem? (i := 950) (by decide +kernel), List.mem_of_getElem? (i := 951) (by decide +kernel)⟩
def lw_privs_3 : List (MethodName × Nat) := [(⟨"MorningBiteModel", "whyNot", "(III)I"⟩, 38), (⟨"MorningBiteModel", "whyNotGive", "(II)I"⟩, 38), (⟨"MorningBiteModel", "happen", "(III)V"⟩, 38), (⟨"MorningBiteModel", "eat", "(II)V"⟩, 38), (⟨"MorningBiteModel", "passMorning", "()V"⟩, 38), (⟨"MorningBiteModel", "lookBehind", "(III)I"⟩, 38), (⟨"MorningBiteModel", "passing", "()I"⟩, 38), (⟨"MorningBiteModel", "oldestNow", "()I"⟩, 38), (⟨"MorningBiteModel", "back", "(I)I"⟩, 38), (⟨"MorningBiteModel", "planRefusal", "(IIII)I"⟩, 38), (⟨"MorningBiteModel", "findPlan", "(IIII)V"⟩, 38), (⟨"MorningBiteModel", "layAges", "(III)V"⟩, 38), (⟨"MorningBiteModel", "layAgeThen", "(IIII)V"⟩, 38), (⟨"MorningBiteModel", "ageAt", "(II)I"⟩, 38), (⟨"MorningBiteModel", "layHalves", "(II)V"⟩, 38), (⟨"MorningBiteModel", "manyAt", "(II)I"⟩, 38)]
theorem lw_r3 : ∀ q ∈ lw_privs_3, lw_okq q := List.forall_mem_cons.mpr ⟨lw_p32, List.forall_mem_cons.mpr ⟨lw_p33, List.forall_mem_cons.mpr ⟨lw_p34, List.forall_mem_cons.mpr ⟨lw_p35, List.forall_mem_cons.mpr ⟨lw_p36, List.forall_mem_cons.mpr ⟨lw_p37, List.forall_mem_cons.mpr ⟨lw_p38, List.forall_mem_cons.mpr ⟨lw_p39, List.forall_mem_cons.mpr ⟨lw_p40, List.forall_mem_cons.mpr ⟨lw_p41, List.forall_mem_cons.mpr ⟨lw_p42, List.forall_mem_cons.mpr ⟨lw_p43, List.forall_mem_cons.mpr ⟨lw_p44, List.forall_mem_cons.mpr ⟨lw_p45, List.forall_mem_cons.mpr ⟨lw_p46, List.forall_mem_cons.mpr ⟨lw_p47, fun _ h => absurd h List.not_mem_nil⟩⟩⟩⟩⟩⟩⟩⟩⟩⟩⟩⟩⟩⟩⟩⟩
theorem lw_p48 : lw_okq (⟨"MorningBiteModel", "halvesBy", "(IIIIII)I"⟩, 38) := ⟨⟨by decide +kernel, by decide +kernel⟩, List.mem_of_getElem? (i := 661) (by decide +kernel), List.mem_of_getElem? (i := 954) (by decide +kernel), List.mem_of_getElem? (i := 955) (by decide +kernel)⟩
theorem lw_p49 : lw_okq (⟨"MorningBiteModel", "thenOf", "(IIII)I"⟩, 38) := ⟨⟨by decide +kernel, by decide +kernel⟩, List.mem_of_getElem? (i := 661) (by decide +kernel), List.mem_of_getElem? (i := 961) (by decide +kernel), List.mem_of_getElem? (i := 962) (by decide +kernel)⟩
theorem lw_p50 : lw_okq (⟨"MorningBiteModel", "firstHow", "(III)I"⟩, 38) := ⟨⟨by decide +kernel, by decide +kernel⟩, List.mem_of_getElem? (i := 661) (by decide +kernel), List.mem_of_getElem? (i := 972) (by decide +kernel), List.mem_of_getElem? (i := 973) (by decide +kernel)⟩
theorem lw_p51 : lw_okq (⟨"MorningBiteModel", "shareOf", "(II)I"⟩, 38) := ⟨⟨by decide +kernel, by decide +kernel⟩, List.mem_of_getElem? (i := 661) (by decide +kernel), List.mem_of_getElem? (i := 981) (by decide +kernel), List.mem_of_getElem? (i := 982) (by decide +kernel)⟩
theorem lw_p52 : lw_okq (⟨"MorningBiteModel", "isEnvyless", "()Z"⟩, 38) := ⟨⟨by decide +kernel, by decide +kernel⟩, List.mem_of_getElem? (i := 661) (by decide +kernel), List.mem_of_getElem? (i := 985) (by decide +kernel), List.mem_of_getElem? (i := 986) (by decide +kernel)⟩
theorem lw_p53 : lw_okq (⟨"MorningBiteModel", "givers", "()I"⟩, 38) := ⟨⟨by decide +kernel, by decide +kernel⟩, List.mem_of_getElem? (i := 661) (by decide +kernel), List.mem_of_getElem? (i := 1006) (by decide +kernel), List.mem_of_getElem? (i := 1007) (by decide +kernel)⟩
theorem lw_p54 : lw_okq (⟨"MorningBiteModel", "fits", "(I)Z"⟩, 38) := ⟨⟨by decide +kernel, by decide +kernel⟩, List.mem_of_getElem? (i := 661) (by decide +kernel), List.mem_of_getElem? (i := 1010) (by decide +kernel), List.mem_of_getElem? (i := 1011) (by decide +kernel)⟩
theorem lw_p55 : lw_okq (⟨"MorningBiteModel", "lookedBy", "(II)I"⟩, 38) := ⟨⟨by decide +kernel, by decide +kernel⟩, List.mem_of_getElem? (i := 661) (by decide +kernel), List.mem_of_getElem? (i := 1014) (by decide +kernel), List.mem_of_getElem? (i := 1015) (by decide +kernel)⟩
theorem lw_p56 : lw_okq (⟨"MorningBiteModel", "mostAlike", "(II)I"⟩, 38) := ⟨⟨by decide +kernel, by decide +kernel⟩, List.mem_of_getElem? (i := 661) (by decide +kernel), List.mem_of_getElem? (i := 1022) (by decide +kernel), List.mem_of_getElem? (i := 1023) (by decide +kernel)⟩
theorem lw_p57 : lw_okq (⟨"MorningBiteModel", "wormyDay", "(II)V"⟩, 38) := ⟨⟨by decide +kernel, by decide +kernel⟩, List.mem_of_getElem? (i := 661) (by decide +kernel), List.mem_of_getElem? (i := 1038) (by decide +kernel), List.mem_of_getElem? (i := 1039) (by decide +kernel)⟩
theorem lw_p58 : lw_okq (⟨"MorningBiteModel", "passAll", "()V"⟩, 38) := ⟨⟨by decide +kernel, by decide +kernel⟩, List.mem_of_getElem? (i := 661) (by decide +kernel), List.mem_of_getElem? (i := 1057) (by decide +kernel), List.mem_of_getElem? (i := 1058) (by decide +kernel)⟩
theorem lw_p59 : lw_okq (⟨"MorningBiteModel", "pass", "(I)I"⟩, 38) := ⟨⟨by decide +kernel, by decide +kernel⟩, List.mem_of_getElem? (i := 661) (by decide +kernel), List.mem_of_getElem? (i := 1061) (by decide +kernel), List.mem_of_getElem? (i := 1062) (by decide +kernel)⟩
theorem lw_p60 : lw_okq (⟨"MorningBiteModel", "toldOf", "(II)I"⟩, 38) := ⟨⟨by decide +kernel, by decide +kernel⟩, List.mem_of_getElem? (i := 661) (by decide +kernel), List.mem_of_getElem? (i := 1074) (by decide +kernel), List.mem_of_getElem? (i := 1075) (by decide +kernel)⟩
def lw_privs_4 : List (MethodName × Nat) := [(⟨"MorningBiteModel", "halvesBy", "(IIIIII)I"⟩, 38), (⟨"MorningBiteModel", "thenOf", "(IIII)I"⟩, 38), (⟨"MorningBiteModel", "firstHow", "(III)I"⟩, 38), (⟨"MorningBiteModel", "shareOf", "(II)I"⟩, 38), (⟨"MorningBiteModel", "isEnvyless", "()Z"⟩, 38), (⟨"MorningBiteModel", "givers", "()I"⟩, 38), (⟨"MorningBiteModel", "fits", "(I)Z"⟩, 38), (⟨"MorningBiteModel", "lookedBy", "(II)I"⟩, 38), (⟨"MorningBiteModel", "mostAlike", "(II)I"⟩, 38), (⟨"MorningBiteModel", "wormyDay", "(II)V"⟩, 38), (⟨"MorningBiteModel", "passAll", "()V"⟩, 38), (⟨"MorningBiteModel", "pass", "(I)I"⟩, 38), (⟨"MorningBiteModel", "toldOf", "(II)I"⟩, 38)]
theorem lw_r4 : ∀ q ∈ lw_privs_4, lw_okq q := List.forall_mem_cons.mpr ⟨lw_p48, List.forall_mem_cons.mpr ⟨lw_p49, List.forall_mem_cons.mpr ⟨lw_p50, List.forall_mem_cons.mpr ⟨lw_p51, List.forall_mem_cons.mpr ⟨lw_p52, List.forall_mem_cons.mpr ⟨lw_p53, List.forall_mem_cons.mpr ⟨lw_p54, List.forall_mem_cons.mpr ⟨lw_p55, List.forall_mem_cons.mpr ⟨lw_p56, List.forall_mem_cons.mpr ⟨lw_p57, List.forall_mem_cons.mpr ⟨lw_p58, List.forall_mem_cons.mpr ⟨lw_p59, List.forall_mem_cons.mpr ⟨lw_p60, fun _ h => absurd h List.not_mem_nil⟩⟩⟩⟩⟩⟩⟩⟩⟩⟩⟩⟩⟩
def lw_privs : List (MethodName × Nat) := lw_privs_1 ++ (lw_privs_2 ++ (lw_privs_3 ++ (lw_privs_4)))
def lw_tbl : List Cond := k2_sels lw_privs ++ tables_1
theorem lw_privs_ok : ∀ q ∈ lw_privs, lw_okq q := by
  show ∀ q ∈ lw_privs_1 ++ (lw_privs_2 ++ (lw_privs_3 ++ (lw_privs_4))), lw_okq q
  exact List.forall_mem_append.mpr ⟨lw_r1, List.forall_mem_append.mpr ⟨lw_r2, List.forall_mem_append.mpr ⟨lw_r3, lw_r4⟩⟩⟩
def RX0 : String := "MorningBite$Days"
def TX0 : u_T := fun k => match k with
  | 0 => ("MorningBite$Days", "end", "LMorningBite$Hill;", true)
  | 1 => ("MorningBite$Days", "ahead", "[I", true)
  | 2 => ("MorningBite$Days", "oldestAt", "[I", true)
  | 3 => ("MorningBite$Days", "mornings", "I", false)
  | 4 => ("MorningBite$Days", "badAct", "I", false)
  | 5 => ("MorningBite$Days", "badWhy", "I", false)
  | 6 => ("MorningBite$Days", "passMorning", "I", false)
  | _ => ("MorningBite$Days", "passPair", "I", false)
def tyX0 : Nat → FieldType := fun k => match k with
  | 0 => .object "MorningBite$Hill"
  | 1 => .array .int
  | 2 => .array .int
  | 3 => .int
  | 4 => .int
  | 5 => .int
  | 6 => .int
  | _ => .int
abbrev wsX00 : List Cond := u_ws RX0 TX0 8
theorem nmX0 : ∀ a, a < 8 → ∀ b, b < 8 → a ≠ b → (TX0 a).2.1 ≠ (TX0 b).2.1 := by decide +kernel
theorem tyX0_ok : ∀ k, k < 8 → parseFieldDescriptor (TX0 k).2.2.1 = some (tyX0 k) := by decide +kernel
abbrev cX0_init : ByteArray := prog_2_method_1_code
def yX0_init : MethodName := ⟨RX0, "<init>", "()V"⟩
abbrev cX0_live : ByteArray := prog_2_method_2_code
def yX0_live : MethodName := ⟨RX0, "live", "(LMorningBite$Hill;LMorningBite$Pad;)V"⟩
abbrev cX0_tellMorning : ByteArray := prog_2_method_3_code
def yX0_tellMorning : MethodName := ⟨RX0, "tellMorning", "()V"⟩
abbrev cX0_leastPass : ByteArray := prog_2_method_4_code
def yX0_leastPass : MethodName := ⟨RX0, "leastPass", "()I"⟩
abbrev cX0_hasPassed : ByteArray := prog_2_method_5_code
def yX0_hasPassed : MethodName := ⟨RX0, "hasPassed", "(II)Z"⟩
def RX1 : String := "MorningBite$Hill"
def TX1 : u_T := fun k => match k with
  | 0 => ("MorningBite$Hill", "looks", "[I", true)
  | 1 => ("MorningBite$Hill", "pace", "[I", true)
  | 2 => ("MorningBite$Hill", "youth", "[I", true)
  | 3 => ("MorningBite$Hill", "eaten", "[I", true)
  | 4 => ("MorningBite$Hill", "there", "I", false)
  | 5 => ("MorningBite$Hill", "basket", "I", false)
  | 6 => ("MorningBite$Hill", "grown", "I", false)
  | _ => ("MorningBite$Hill", "she", "I", false)
def tyX1 : Nat → FieldType := fun k => match k with
  | 0 => .array .int
  | 1 => .array .int
  | 2 => .array .int
  | 3 => .array .int
  | 4 => .int
  | 5 => .int
  | 6 => .int
  | _ => .int
abbrev wsX10 : List Cond := u_ws RX1 TX1 8
theorem nmX1 : ∀ a, a < 8 → ∀ b, b < 8 → a ≠ b → (TX1 a).2.1 ≠ (TX1 b).2.1 := by decide +kernel
theorem tyX1_ok : ∀ k, k < 8 → parseFieldDescriptor (TX1 k).2.2.1 = some (tyX1 k) := by decide +kernel
abbrev cX1_init : ByteArray := prog_3_method_1_code
def yX1_init : MethodName := ⟨RX1, "<init>", "()V"⟩
abbrev cX1_has : ByteArray := prog_3_method_2_code
def yX1_has : MethodName := ⟨RX1, "has", "(I)Z"⟩
abbrev cX1_people : ByteArray := prog_3_method_3_code
def yX1_people : MethodName := ⟨RX1, "people", "()I"⟩
abbrev cX1_settle : ByteArray := prog_3_method_4_code
def yX1_settle : MethodName := ⟨RX1, "settle", "(IIII)V"⟩
abbrev cX1_drop : ByteArray := prog_3_method_5_code
def yX1_drop : MethodName := ⟨RX1, "drop", "(I)V"⟩
abbrev cX1_takeOver : ByteArray := prog_3_method_6_code
def yX1_takeOver : MethodName := ⟨RX1, "takeOver", "(LMorningBite$Hill;)V"⟩
abbrev cX1_whyNot : ByteArray := prog_3_method_7_code
def yX1_whyNot : MethodName := ⟨RX1, "whyNot", "(III)I"⟩
abbrev cX1_whyNotGive : ByteArray := prog_3_method_8_code
def yX1_whyNotGive : MethodName := ⟨RX1, "whyNotGive", "(II)I"⟩
abbrev cX1_halvesOf : ByteArray := prog_3_method_9_code
def yX1_halvesOf : MethodName := ⟨RX1, "halvesOf", "(I)I"⟩
abbrev cX1_act : ByteArray := prog_3_method_10_code
def yX1_act : MethodName := ⟨RX1, "act", "(III)V"⟩
abbrev cX1_wake : ByteArray := prog_3_method_11_code
def yX1_wake : MethodName := ⟨RX1, "wake", "()V"⟩
abbrev cX1_aged : ByteArray := prog_3_method_12_code
def yX1_aged : MethodName := ⟨RX1, "aged", "(III)I"⟩
abbrev cX1_oldestOne : ByteArray := prog_3_method_13_code
def yX1_oldestOne : MethodName := ⟨RX1, "oldestOne", "()I"⟩
abbrev cX1_looksTogether : ByteArray := prog_3_method_14_code
def yX1_looksTogether : MethodName := ⟨RX1, "looksTogether", "()I"⟩
def RX2 : String := "MorningBite$Image"
def TX2 : u_T := fun k => match k with
  | 0 => ("MorningBite$Image", "hill", "LMorningBite$Hill;", true)
  | 1 => ("MorningBite$Image", "sights", "LMorningBite$Sights;", true)
  | _ => ("MorningBite$Image", "kept", "Z", false)
def tyX2 : Nat → FieldType := fun k => match k with
  | 0 => .object "MorningBite$Hill"
  | 1 => .object "MorningBite$Sights"
  | _ => .boolean
abbrev wsX20 : List Cond := u_ws RX2 TX2 3
theorem nmX2 : ∀ a, a < 3 → ∀ b, b < 3 → a ≠ b → (TX2 a).2.1 ≠ (TX2 b).2.1 := by decide +kernel
theorem tyX2_ok : ∀ k, k < 3 → parseFieldDescriptor (TX2 k).2.2.1 = some (tyX2 k) := by decide +kernel
abbrev cX2_init : ByteArray := prog_4_method_1_code
def yX2_init : MethodName := ⟨RX2, "<init>", "()V"⟩
abbrev cX2_keep : ByteArray := prog_4_method_2_code
def yX2_keep : MethodName := ⟨RX2, "keep", "(LMorningBite$Hill;LMorningBite$Sights;)V"⟩
abbrev cX2_giveBack : ByteArray := prog_4_method_3_code
def yX2_giveBack : MethodName := ⟨RX2, "giveBack", "(LMorningBite$Hill;LMorningBite$Sights;)V"⟩
def RX3 : String := "MorningBite$Keeper"
def TX3 : u_T := fun k => match k with
  | 0 => ("MorningBite$Keeper", "seats", "[I", true)
  | 1 => ("MorningBite$Keeper", "ages", "[[I", true)
  | 2 => ("MorningBite$Keeper", "counts", "[I", true)
  | 3 => ("MorningBite$Keeper", "nexts", "[[I", true)
  | 4 => ("MorningBite$Keeper", "fewest", "[I", true)
  | 5 => ("MorningBite$Keeper", "starts", "[I", true)
  | 6 => ("MorningBite$Keeper", "row", "[I", true)
  | 7 => ("MorningBite$Keeper", "days", "I", false)
  | 8 => ("MorningBite$Keeper", "halves", "I", false)
  | 9 => ("MorningBite$Keeper", "most", "I", false)
  | _ => ("MorningBite$Keeper", "pick", "I", false)
def tyX3 : Nat → FieldType := fun k => match k with
  | 0 => .array .int
  | 1 => .array (.array .int)
  | 2 => .array .int
  | 3 => .array (.array .int)
  | 4 => .array .int
  | 5 => .array .int
  | 6 => .array .int
  | 7 => .int
  | 8 => .int
  | 9 => .int
  | _ => .int
abbrev wsX30 : List Cond := u_ws RX3 TX3 11
theorem nmX3 : ∀ a, a < 11 → ∀ b, b < 11 → a ≠ b → (TX3 a).2.1 ≠ (TX3 b).2.1 := by decide +kernel
theorem tyX3_ok : ∀ k, k < 11 → parseFieldDescriptor (TX3 k).2.2.1 = some (tyX3 k) := by decide +kernel
abbrev cX3_init : ByteArray := prog_5_method_1_code
def yX3_init : MethodName := ⟨RX3, "<init>", "()V"⟩
abbrev cX3_solve : ByteArray := prog_5_method_2_code
def yX3_solve : MethodName := ⟨RX3, "solve", "(LMorningBite$Hill;IIII)I"⟩
abbrev cX3_seat : ByteArray := prog_5_method_3_code
def yX3_seat : MethodName := ⟨RX3, "seat", "(LMorningBite$Hill;I)V"⟩
abbrev cX3_listAges : ByteArray := prog_5_method_4_code
def yX3_listAges : MethodName := ⟨RX3, "listAges", "(LMorningBite$Hill;)V"⟩
abbrev cX3_listNext : ByteArray := prog_5_method_5_code
def yX3_listNext : MethodName := ⟨RX3, "listNext", "(LMorningBite$Hill;II)V"⟩
abbrev cX3_lastsRest : ByteArray := prog_5_method_6_code
def yX3_lastsRest : MethodName := ⟨RX3, "lastsRest", "(LMorningBite$Hill;III)Z"⟩
abbrev cX3_findAge : ByteArray := prog_5_method_7_code
def yX3_findAge : MethodName := ⟨RX3, "findAge", "(II)I"⟩
abbrev cX3_countOf : ByteArray := prog_5_method_8_code
def yX3_countOf : MethodName := ⟨RX3, "countOf", "(II)I"⟩
abbrev cX3_countDay : ByteArray := prog_5_method_9_code
def yX3_countDay : MethodName := ⟨RX3, "countDay", "(I)V"⟩
abbrev cX3_bestMeals : ByteArray := prog_5_method_10_code
def yX3_bestMeals : MethodName := ⟨RX3, "bestMeals", "(IIII)I"⟩
abbrev cX3_next : ByteArray := prog_5_method_11_code
def yX3_next : MethodName := ⟨RX3, "next", "(IIII)I"⟩
abbrev cX3_fewestFrom : ByteArray := prog_5_method_12_code
def yX3_fewestFrom : MethodName := ⟨RX3, "fewestFrom", "(IIII)I"⟩
abbrev cX3_eats : ByteArray := prog_5_method_13_code
def yX3_eats : MethodName := ⟨RX3, "eats", "(II)I"⟩
abbrev cX3_walk : ByteArray := prog_5_method_14_code
def yX3_walk : MethodName := ⟨RX3, "walk", "()V"⟩
def RX4 : String := "MorningBite$Pad"
def TX4 : u_T := fun k => match k with
  | 0 => ("MorningBite$Pad", "signs", "[I", true)
  | 1 => ("MorningBite$Pad", "kinds", "[I", true)
  | 2 => ("MorningBite$Pad", "doers", "[I", true)
  | 3 => ("MorningBite$Pad", "receivers", "[I", true)
  | 4 => ("MorningBite$Pad", "size", "I", false)
  | _ => ("MorningBite$Pad", "acts", "I", false)
def tyX4 : Nat → FieldType := fun k => match k with
  | 0 => .array .int
  | 1 => .array .int
  | 2 => .array .int
  | 3 => .array .int
  | 4 => .int
  | _ => .int
abbrev wsX40 : List Cond := u_ws RX4 TX4 6
theorem nmX4 : ∀ a, a < 6 → ∀ b, b < 6 → a ≠ b → (TX4 a).2.1 ≠ (TX4 b).2.1 := by decide +kernel
theorem tyX4_ok : ∀ k, k < 6 → parseFieldDescriptor (TX4 k).2.2.1 = some (tyX4 k) := by decide +kernel
abbrev cX4_init : ByteArray := prog_6_method_1_code
def yX4_init : MethodName := ⟨RX4, "<init>", "()V"⟩
abbrev cX4_add : ByteArray := prog_6_method_2_code
def yX4_add : MethodName := ⟨RX4, "add", "(I)Z"⟩
abbrev cX4_read : ByteArray := prog_6_method_3_code
def yX4_read : MethodName := ⟨RX4, "read", "()I"⟩
abbrev cX4_isLetter : ByteArray := prog_6_method_4_code
def yX4_isLetter : MethodName := ⟨RX4, "isLetter", "(I)Z"⟩
abbrev cX4_addAct : ByteArray := prog_6_method_5_code
def yX4_addAct : MethodName := ⟨RX4, "addAct", "(III)V"⟩
def RX5 : String := "MorningBite$Shares"
def TX5 : u_T := fun k => match k with
  | 0 => ("MorningBite$Shares", "behind", "[I", true)
  | 1 => ("MorningBite$Shares", "count", "I", false)
  | _ => ("MorningBite$Shares", "first", "I", false)
def tyX5 : Nat → FieldType := fun k => match k with
  | 0 => .array .int
  | 1 => .int
  | _ => .int
abbrev wsX50 : List Cond := u_ws RX5 TX5 3
theorem nmX5 : ∀ a, a < 3 → ∀ b, b < 3 → a ≠ b → (TX5 a).2.1 ≠ (TX5 b).2.1 := by decide +kernel
theorem tyX5_ok : ∀ k, k < 3 → parseFieldDescriptor (TX5 k).2.2.1 = some (tyX5 k) := by decide +kernel
abbrev cX5_init : ByteArray := prog_7_method_1_code
def yX5_init : MethodName := ⟨RX5, "<init>", "()V"⟩
abbrev cX5_weigh : ByteArray := prog_7_method_2_code
def yX5_weigh : MethodName := ⟨RX5, "weigh", "(LMorningBite$Hill;I)V"⟩
abbrev cX5_share : ByteArray := prog_7_method_3_code
def yX5_share : MethodName := ⟨RX5, "share", "(LMorningBite$Hill;III)V"⟩
abbrev cX5_addShare : ByteArray := prog_7_method_4_code
def yX5_addShare : MethodName := ⟨RX5, "addShare", "(II)V"⟩
abbrev cX5_envies : ByteArray := prog_7_method_5_code
def yX5_envies : MethodName := ⟨RX5, "envies", "(LMorningBite$Hill;I)Z"⟩
abbrev cX5_wronged : ByteArray := prog_7_method_6_code
def yX5_wronged : MethodName := ⟨RX5, "wronged", "(LMorningBite$Hill;II)Z"⟩
def RX6 : String := "MorningBite$Sights"
def TX6 : u_T := fun k => match k with
  | 0 => ("MorningBite$Sights", "ones", "[I", true)
  | 1 => ("MorningBite$Sights", "looked", "[I", true)
  | _ => ("MorningBite$Sights", "count", "I", false)
def tyX6 : Nat → FieldType := fun k => match k with
  | 0 => .array .int
  | 1 => .array .int
  | _ => .int
abbrev wsX60 : List Cond := u_ws RX6 TX6 3
theorem nmX6 : ∀ a, a < 3 → ∀ b, b < 3 → a ≠ b → (TX6 a).2.1 ≠ (TX6 b).2.1 := by decide +kernel
theorem tyX6_ok : ∀ k, k < 3 → parseFieldDescriptor (TX6 k).2.2.1 = some (tyX6 k) := by decide +kernel
abbrev cX6_init : ByteArray := prog_8_method_1_code
def yX6_init : MethodName := ⟨RX6, "<init>", "()V"⟩
abbrev cX6_add : ByteArray := prog_8_method_2_code
def yX6_add : MethodName := ⟨RX6, "add", "(II)Z"⟩
abbrev cX6_takeOver : ByteArray := prog_8_method_3_code
def yX6_takeOver : MethodName := ⟨RX6, "takeOver", "(LMorningBite$Sights;)V"⟩
abbrev cX6_givers : ByteArray := prog_8_method_4_code
def yX6_givers : MethodName := ⟨RX6, "givers", "(LMorningBite$Hill;)I"⟩
abbrev cX6_fits : ByteArray := prog_8_method_5_code
def yX6_fits : MethodName := ⟨RX6, "fits", "(LMorningBite$Hill;I)Z"⟩
abbrev cX6_leftAtMost : ByteArray := prog_8_method_6_code
def yX6_leftAtMost : MethodName := ⟨RX6, "leftAtMost", "(LMorningBite$Hill;II)I"⟩
abbrev cX6_looksBehind : ByteArray := prog_8_method_7_code
def yX6_looksBehind : MethodName := ⟨RX6, "looksBehind", "(LMorningBite$Hill;II)I"⟩
def RX7 : String := "MorningBite$Wormy"
def TX7 : u_T := fun k => match k with
  | _ => ("", "", "", false)
def tyX7 : Nat → FieldType := fun k => match k with
  | _ => .int
abbrev wsX70 : List Cond := u_ws RX7 TX7 0
theorem nmX7 : ∀ a, a < 0 → ∀ b, b < 0 → a ≠ b → (TX7 a).2.1 ≠ (TX7 b).2.1 := by decide +kernel
theorem tyX7_ok : ∀ k, k < 0 → parseFieldDescriptor (TX7 k).2.2.1 = some (tyX7 k) := by decide +kernel
abbrev cX7_weigh : ByteArray := prog_9_method_2_code
def yX7_weigh : MethodName := ⟨RX7, "weigh", "(LMorningBite$Hill;IIII)J"⟩
abbrev cX7_looksBehind : ByteArray := prog_9_method_3_code
def yX7_looksBehind : MethodName := ⟨RX7, "looksBehind", "(LMorningBite$Hill;III)I"⟩
abbrev cX7_power : ByteArray := prog_9_method_4_code
def yX7_power : MethodName := ⟨RX7, "power", "(JI)J"⟩
abbrev cX7_commonDivisor : ByteArray := prog_9_method_5_code
def yX7_commonDivisor : MethodName := ⟨RX7, "commonDivisor", "(JJ)J"⟩
def RX8 : String := "MorningBite$Year"
def TX8 : u_T := fun k => match k with
  | 0 => ("MorningBite$Year", "end", "LMorningBite$Hill;", true)
  | _ => ("MorningBite$Year", "mornings", "I", false)
def tyX8 : Nat → FieldType := fun k => match k with
  | 0 => .object "MorningBite$Hill"
  | _ => .int
abbrev wsX80 : List Cond := u_ws RX8 TX8 2
theorem nmX8 : ∀ a, a < 2 → ∀ b, b < 2 → a ≠ b → (TX8 a).2.1 ≠ (TX8 b).2.1 := by decide +kernel
theorem tyX8_ok : ∀ k, k < 2 → parseFieldDescriptor (TX8 k).2.2.1 = some (tyX8 k) := by decide +kernel
abbrev cX8_init : ByteArray := prog_10_method_1_code
def yX8_init : MethodName := ⟨RX8, "<init>", "()V"⟩
abbrev cX8_live : ByteArray := prog_10_method_2_code
def yX8_live : MethodName := ⟨RX8, "live", "(LMorningBite$Hill;II)V"⟩
abbrev cX8_kindOf : ByteArray := prog_10_method_3_code
def yX8_kindOf : MethodName := ⟨RX8, "kindOf", "(I)I"⟩
def RX9 : String := "MorningBite"
def TX9 : u_T := fun k => match k with
  | 0 => ("MorningBite", "hill", "LMorningBite$Hill;", true)
  | 1 => ("MorningBite", "pad", "LMorningBite$Pad;", true)
  | 2 => ("MorningBite", "days", "LMorningBite$Days;", true)
  | 3 => ("MorningBite", "keeper", "LMorningBite$Keeper;", true)
  | 4 => ("MorningBite", "shares", "LMorningBite$Shares;", true)
  | 5 => ("MorningBite", "sights", "LMorningBite$Sights;", true)
  | 6 => ("MorningBite", "trialYear", "LMorningBite$Year;", true)
  | _ => ("MorningBite", "images", "[LMorningBite$Image;", true)
def tyX9 : Nat → FieldType := fun k => match k with
  | 0 => .object "MorningBite$Hill"
  | 1 => .object "MorningBite$Pad"
  | 2 => .object "MorningBite$Days"
  | 3 => .object "MorningBite$Keeper"
  | 4 => .object "MorningBite$Shares"
  | 5 => .object "MorningBite$Sights"
  | 6 => .object "MorningBite$Year"
  | _ => .array (.object "MorningBite$Image")
abbrev wsX90 : List Cond := u_ws RX9 TX9 8
theorem nmX9 : ∀ a, a < 8 → ∀ b, b < 8 → a ≠ b → (TX9 a).2.1 ≠ (TX9 b).2.1 := by decide +kernel
theorem tyX9_ok : ∀ k, k < 8 → parseFieldDescriptor (TX9 k).2.2.1 = some (tyX9 k) := by decide +kernel
abbrev cX9_init : ByteArray := prog_1_method_1_code
def yX9_init : MethodName := ⟨RX9, "<init>", "()V"⟩
abbrev cX9_one : ByteArray := prog_1_method_2_code
def yX9_one : MethodName := ⟨RX9, "one", "(IIII)I"⟩
abbrev cX9_leave : ByteArray := prog_1_method_3_code
def yX9_leave : MethodName := ⟨RX9, "leave", "(I)I"⟩
abbrev cX9_set : ByteArray := prog_1_method_4_code
def yX9_set : MethodName := ⟨RX9, "set", "(II)I"⟩
abbrev cX9_say : ByteArray := prog_1_method_5_code
def yX9_say : MethodName := ⟨RX9, "say", "(I)I"⟩
abbrev cX9_wipe : ByteArray := prog_1_method_6_code
def yX9_wipe : MethodName := ⟨RX9, "wipe", "()I"⟩
abbrev cX9_fault : ByteArray := prog_1_method_7_code
def yX9_fault : MethodName := ⟨RX9, "fault", "()I"⟩
abbrev cX9_judge : ByteArray := prog_1_method_8_code
def yX9_judge : MethodName := ⟨RX9, "judge", "(I)I"⟩
abbrev cX9_behind : ByteArray := prog_1_method_9_code
def yX9_behind : MethodName := ⟨RX9, "behind", "(II)I"⟩
abbrev cX9_basket : ByteArray := prog_1_method_10_code
def yX9_basket : MethodName := ⟨RX9, "basket", "()I"⟩
abbrev cX9_passed : ByteArray := prog_1_method_11_code
def yX9_passed : MethodName := ⟨RX9, "passed", "(I)I"⟩
abbrev cX9_oldest : ByteArray := prog_1_method_12_code
def yX9_oldest : MethodName := ⟨RX9, "oldest", "(I)I"⟩
abbrev cX9_done : ByteArray := prog_1_method_13_code
def yX9_done : MethodName := ⟨RX9, "done", "()I"⟩
abbrev cX9_lasts : ByteArray := prog_1_method_14_code
def yX9_lasts : MethodName := ⟨RX9, "lasts", "(II)I"⟩
abbrev cX9_keeps : ByteArray := prog_1_method_15_code
def yX9_keeps : MethodName := ⟨RX9, "keeps", "(IIII)I"⟩
abbrev cX9_plan : ByteArray := prog_1_method_16_code
def yX9_plan : MethodName := ⟨RX9, "plan", "(IIIIII)I"⟩
abbrev cX9_envy : ByteArray := prog_1_method_17_code
def yX9_envy : MethodName := ⟨RX9, "envy", "(II)I"⟩
abbrev cX9_refuses : ByteArray := prog_1_method_18_code
def yX9_refuses : MethodName := ⟨RX9, "refuses", "(I)I"⟩
abbrev cX9_seen : ByteArray := prog_1_method_19_code
def yX9_seen : MethodName := ⟨RX9, "seen", "(II)I"⟩
abbrev cX9_forget : ByteArray := prog_1_method_20_code
def yX9_forget : MethodName := ⟨RX9, "forget", "()I"⟩
abbrev cX9_gave : ByteArray := prog_1_method_21_code
def yX9_gave : MethodName := ⟨RX9, "gave", "(I)I"⟩
abbrev cX9_ask : ByteArray := prog_1_method_22_code
def yX9_ask : MethodName := ⟨RX9, "ask", "(I)I"⟩
abbrev cX9_thieves : ByteArray := prog_1_method_23_code
def yX9_thieves : MethodName := ⟨RX9, "thieves", "(III)I"⟩
abbrev cX9_worms : ByteArray := prog_1_method_24_code
def yX9_worms : MethodName := ⟨RX9, "worms", "(IIIII)J"⟩
abbrev cX9_year : ByteArray := prog_1_method_25_code
def yX9_year : MethodName := ⟨RX9, "year", "(III)I"⟩
abbrev cX9_image : ByteArray := prog_1_method_26_code
def yX9_image : MethodName := ⟨RX9, "image", "(I)I"⟩
abbrev cX9_restore : ByteArray := prog_1_method_27_code
def yX9_restore : MethodName := ⟨RX9, "restore", "(I)I"⟩
abbrev cX9_told : ByteArray := prog_1_method_28_code
def yX9_told : MethodName := ⟨RX9, "told", "(I)I"⟩
abbrev cX9_toldOf : ByteArray := prog_1_method_29_code
def yX9_toldOf : MethodName := ⟨RX9, "toldOf", "(II)I"⟩
abbrev cX9_liveDays : ByteArray := prog_1_method_30_code
def yX9_liveDays : MethodName := ⟨RX9, "liveDays", "()I"⟩
abbrev cX9_refuseKeeping : ByteArray := prog_1_method_31_code
def yX9_refuseKeeping : MethodName := ⟨RX9, "refuseKeeping", "(IIII)I"⟩
abbrev cX9_within : ByteArray := prog_1_method_32_code
def yX9_within : MethodName := ⟨RX9, "within", "(III)Z"⟩
def RX10 : String := "MorningBiteModel"
def TX10 : u_T := fun k => match k with
  | 0 => ("MorningBiteModel", "there", "I", false)
  | 1 => ("MorningBiteModel", "inBasket", "I", false)
  | 2 => ("MorningBiteModel", "grown", "I", false)
  | 3 => ("MorningBiteModel", "isHere", "I", false)
  | 4 => ("MorningBiteModel", "looks", "[I", true)
  | 5 => ("MorningBiteModel", "pace", "[I", true)
  | 6 => ("MorningBiteModel", "youth", "[I", true)
  | 7 => ("MorningBiteModel", "eaten", "[I", true)
  | 8 => ("MorningBiteModel", "sightOne", "[I", true)
  | 9 => ("MorningBiteModel", "sightLooks", "[I", true)
  | 10 => ("MorningBiteModel", "sights", "I", false)
  | 11 => ("MorningBiteModel", "pad", "[I", true)
  | 12 => ("MorningBiteModel", "padMany", "I", false)
  | 13 => ("MorningBiteModel", "act", "[I", true)
  | 14 => ("MorningBiteModel", "who", "[I", true)
  | 15 => ("MorningBiteModel", "whom", "[I", true)
  | 16 => ("MorningBiteModel", "acts", "I", false)
  | 17 => ("MorningBiteModel", "mornings", "I", false)
  | 18 => ("MorningBiteModel", "firstPassed", "I", false)
  | 19 => ("MorningBiteModel", "twoPassed", "I", false)
  | 20 => ("MorningBiteModel", "oldestBy", "[I", true)
  | 21 => ("MorningBiteModel", "ahead", "[I", true)
  | 22 => ("MorningBiteModel", "had", "[I", true)
  | 23 => ("MorningBiteModel", "badAct", "I", false)
  | 24 => ("MorningBiteModel", "badWhy", "I", false)
  | 25 => ("MorningBiteModel", "member", "[I", true)
  | 26 => ("MorningBiteModel", "age", "[I", true)
  | 27 => ("MorningBiteModel", "ageMany", "[I", true)
  | 28 => ("MorningBiteModel", "ageThen", "[I", true)
  | 29 => ("MorningBiteModel", "halvesFrom", "[I", true)
  | 30 => ("MorningBiteModel", "ledOn", "[I", true)
  | 31 => ("MorningBiteModel", "gets", "[I", true)
  | 32 => ("MorningBiteModel", "parts", "[J", true)
  | 33 => ("MorningBiteModel", "partsThen", "[J", true)
  | 34 => ("MorningBiteModel", "kept", "[I", true)
  | 35 => ("MorningBiteModel", "isKept", "[Z", true)
  | 36 => ("MorningBiteModel", "keptAt", "I", false)
  | _ => ("MorningBiteModel", "isWriting", "Z", false)
def tyX10 : Nat → FieldType := fun k => match k with
  | 0 => .int
  | 1 => .int
  | 2 => .int
  | 3 => .int
  | 4 => .array .int
  | 5 => .array .int
  | 6 => .array .int
  | 7 => .array .int
  | 8 => .array .int
  | 9 => .array .int
  | 10 => .int
  | 11 => .array .int
  | 12 => .int
  | 13 => .array .int
  | 14 => .array .int
  | 15 => .array .int
  | 16 => .int
  | 17 => .int
  | 18 => .int
  | 19 => .int
  | 20 => .array .int
  | 21 => .array .int
  | 22 => .array .int
  | 23 => .int
  | 24 => .int
  | 25 => .array .int
  | 26 => .array .int
  | 27 => .array .int
  | 28 => .array .int
  | 29 => .array .int
  | 30 => .array .int
  | 31 => .array .int
  | 32 => .array .long
  | 33 => .array .long
  | 34 => .array .int
  | 35 => .array .boolean
  | 36 => .int
  | _ => .boolean
abbrev wsX100 : List Cond := u_ws RX10 TX10 38
theorem nmX10 : ∀ a, a < 38 → ∀ b, b < 38 → a ≠ b → (TX10 a).2.1 ≠ (TX10 b).2.1 := by decide +kernel
theorem tyX10_ok : ∀ k, k < 38 → parseFieldDescriptor (TX10 k).2.2.1 = some (tyX10 k) := by decide +kernel
abbrev cX10_init : ByteArray := prog_12_method_1_code
def yX10_init : MethodName := ⟨RX10, "<init>", "()V"⟩
abbrev cX10_in : ByteArray := prog_12_method_3_code
def yX10_in : MethodName := ⟨RX10, "in", "(JJJ)Z"⟩
abbrev cX10_ones : ByteArray := prog_12_method_4_code
def yX10_ones : MethodName := ⟨RX10, "ones", "(I)I"⟩
abbrev cX10_isOne : ByteArray := prog_12_method_5_code
def yX10_isOne : MethodName := ⟨RX10, "isOne", "(I)Z"⟩
abbrev cX10_one : ByteArray := prog_12_method_6_code
def yX10_one : MethodName := ⟨RX10, "one", "(IIII)I"⟩
abbrev cX10_leave : ByteArray := prog_12_method_7_code
def yX10_leave : MethodName := ⟨RX10, "leave", "(I)I"⟩
abbrev cX10_set : ByteArray := prog_12_method_8_code
def yX10_set : MethodName := ⟨RX10, "set", "(II)I"⟩
abbrev cX10_say : ByteArray := prog_12_method_9_code
def yX10_say : MethodName := ⟨RX10, "say", "(I)I"⟩
abbrev cX10_wipe : ByteArray := prog_12_method_10_code
def yX10_wipe : MethodName := ⟨RX10, "wipe", "()I"⟩
abbrev cX10_isLetter : ByteArray := prog_12_method_11_code
def yX10_isLetter : MethodName := ⟨RX10, "isLetter", "(I)Z"⟩
abbrev cX10_close : ByteArray := prog_12_method_12_code
def yX10_close : MethodName := ⟨RX10, "close", "(II)I"⟩
abbrev cX10_readOn : ByteArray := prog_12_method_13_code
def yX10_readOn : MethodName := ⟨RX10, "readOn", "(II)I"⟩
abbrev cX10_fault : ByteArray := prog_12_method_14_code
def yX10_fault : MethodName := ⟨RX10, "fault", "()I"⟩
abbrev cX10_whyNotGive : ByteArray := prog_12_method_15_code
def yX10_whyNotGive : MethodName := ⟨RX10, "whyNotGive", "(II)I"⟩
abbrev cX10_whyNot : ByteArray := prog_12_method_16_code
def yX10_whyNot : MethodName := ⟨RX10, "whyNot", "(III)I"⟩
abbrev cX10_lookBehind : ByteArray := prog_12_method_17_code
def yX10_lookBehind : MethodName := ⟨RX10, "lookBehind", "(III)I"⟩
abbrev cX10_oldestNow : ByteArray := prog_12_method_18_code
def yX10_oldestNow : MethodName := ⟨RX10, "oldestNow", "()I"⟩
abbrev cX10_passing : ByteArray := prog_12_method_19_code
def yX10_passing : MethodName := ⟨RX10, "passing", "()I"⟩
abbrev cX10_passMorning : ByteArray := prog_12_method_20_code
def yX10_passMorning : MethodName := ⟨RX10, "passMorning", "()V"⟩
abbrev cX10_eat : ByteArray := prog_12_method_21_code
def yX10_eat : MethodName := ⟨RX10, "eat", "(II)V"⟩
abbrev cX10_happen : ByteArray := prog_12_method_22_code
def yX10_happen : MethodName := ⟨RX10, "happen", "(III)V"⟩
abbrev cX10_keepNow : ByteArray := prog_12_method_23_code
def yX10_keepNow : MethodName := ⟨RX10, "keepNow", "()V"⟩
abbrev cX10_back : ByteArray := prog_12_method_24_code
def yX10_back : MethodName := ⟨RX10, "back", "(I)I"⟩
abbrev cX10_beginCount : ByteArray := prog_12_method_25_code
def yX10_beginCount : MethodName := ⟨RX10, "beginCount", "()V"⟩
abbrev cX10_goDays : ByteArray := prog_12_method_26_code
def yX10_goDays : MethodName := ⟨RX10, "goDays", "()V"⟩
abbrev cX10_refusal : ByteArray := prog_12_method_27_code
def yX10_refusal : MethodName := ⟨RX10, "refusal", "()I"⟩
abbrev cX10_judge : ByteArray := prog_12_method_28_code
def yX10_judge : MethodName := ⟨RX10, "judge", "(I)I"⟩
abbrev cX10_behind : ByteArray := prog_12_method_29_code
def yX10_behind : MethodName := ⟨RX10, "behind", "(II)I"⟩
abbrev cX10_basket : ByteArray := prog_12_method_30_code
def yX10_basket : MethodName := ⟨RX10, "basket", "()I"⟩
abbrev cX10_passed : ByteArray := prog_12_method_31_code
def yX10_passed : MethodName := ⟨RX10, "passed", "(I)I"⟩
abbrev cX10_oldest : ByteArray := prog_12_method_32_code
def yX10_oldest : MethodName := ⟨RX10, "oldest", "(I)I"⟩
abbrev cX10_done : ByteArray := prog_12_method_33_code
def yX10_done : MethodName := ⟨RX10, "done", "()I"⟩
abbrev cX10_lasts : ByteArray := prog_12_method_34_code
def yX10_lasts : MethodName := ⟨RX10, "lasts", "(II)I"⟩
abbrev cX10_ageAt : ByteArray := prog_12_method_35_code
def yX10_ageAt : MethodName := ⟨RX10, "ageAt", "(II)I"⟩
abbrev cX10_layAges : ByteArray := prog_12_method_36_code
def yX10_layAges : MethodName := ⟨RX10, "layAges", "(III)V"⟩
abbrev cX10_layAgeThen : ByteArray := prog_12_method_37_code
def yX10_layAgeThen : MethodName := ⟨RX10, "layAgeThen", "(IIII)V"⟩
abbrev cX10_stateOf : ByteArray := prog_12_method_38_code
def yX10_stateOf : MethodName := ⟨RX10, "stateOf", "(III)I"⟩
abbrev cX10_thenOf : ByteArray := prog_12_method_39_code
def yX10_thenOf : MethodName := ⟨RX10, "thenOf", "(IIII)I"⟩
abbrev cX10_halvesOf : ByteArray := prog_12_method_40_code
def yX10_halvesOf : MethodName := ⟨RX10, "halvesOf", "(I)I"⟩
abbrev cX10_halvesBy : ByteArray := prog_12_method_41_code
def yX10_halvesBy : MethodName := ⟨RX10, "halvesBy", "(IIIIII)I"⟩
abbrev cX10_manyAt : ByteArray := prog_12_method_42_code
def yX10_manyAt : MethodName := ⟨RX10, "manyAt", "(II)I"⟩
abbrev cX10_layHalves : ByteArray := prog_12_method_43_code
def yX10_layHalves : MethodName := ⟨RX10, "layHalves", "(II)V"⟩
abbrev cX10_findPlan : ByteArray := prog_12_method_44_code
def yX10_findPlan : MethodName := ⟨RX10, "findPlan", "(IIII)V"⟩
abbrev cX10_planRefusal : ByteArray := prog_12_method_45_code
def yX10_planRefusal : MethodName := ⟨RX10, "planRefusal", "(IIII)I"⟩
abbrev cX10_keeps : ByteArray := prog_12_method_46_code
def yX10_keeps : MethodName := ⟨RX10, "keeps", "(IIII)I"⟩
abbrev cX10_firstHow : ByteArray := prog_12_method_47_code
def yX10_firstHow : MethodName := ⟨RX10, "firstHow", "(III)I"⟩
abbrev cX10_plan : ByteArray := prog_12_method_48_code
def yX10_plan : MethodName := ⟨RX10, "plan", "(IIIIII)I"⟩
abbrev cX10_isEnvyless : ByteArray := prog_12_method_49_code
def yX10_isEnvyless : MethodName := ⟨RX10, "isEnvyless", "()Z"⟩
abbrev cX10_shareOf : ByteArray := prog_12_method_50_code
def yX10_shareOf : MethodName := ⟨RX10, "shareOf", "(II)I"⟩
abbrev cX10_envy : ByteArray := prog_12_method_51_code
def yX10_envy : MethodName := ⟨RX10, "envy", "(II)I"⟩
abbrev cX10_refuses : ByteArray := prog_12_method_52_code
def yX10_refuses : MethodName := ⟨RX10, "refuses", "(I)I"⟩
abbrev cX10_seen : ByteArray := prog_12_method_53_code
def yX10_seen : MethodName := ⟨RX10, "seen", "(II)I"⟩
abbrev cX10_forget : ByteArray := prog_12_method_54_code
def yX10_forget : MethodName := ⟨RX10, "forget", "()I"⟩
abbrev cX10_lookedBy : ByteArray := prog_12_method_55_code
def yX10_lookedBy : MethodName := ⟨RX10, "lookedBy", "(II)I"⟩
abbrev cX10_fits : ByteArray := prog_12_method_56_code
def yX10_fits : MethodName := ⟨RX10, "fits", "(I)Z"⟩
abbrev cX10_givers : ByteArray := prog_12_method_57_code
def yX10_givers : MethodName := ⟨RX10, "givers", "()I"⟩
abbrev cX10_gave : ByteArray := prog_12_method_58_code
def yX10_gave : MethodName := ⟨RX10, "gave", "(I)I"⟩
abbrev cX10_mostAlike : ByteArray := prog_12_method_59_code
def yX10_mostAlike : MethodName := ⟨RX10, "mostAlike", "(II)I"⟩
abbrev cX10_ask : ByteArray := prog_12_method_60_code
def yX10_ask : MethodName := ⟨RX10, "ask", "(I)I"⟩
abbrev cX10_thieves : ByteArray := prog_12_method_61_code
def yX10_thieves : MethodName := ⟨RX10, "thieves", "(III)I"⟩
abbrev cX10_lowest : ByteArray := prog_12_method_62_code
def yX10_lowest : MethodName := ⟨RX10, "lowest", "(JJI)J"⟩
abbrev cX10_wormyDay : ByteArray := prog_12_method_63_code
def yX10_wormyDay : MethodName := ⟨RX10, "wormyDay", "(II)V"⟩
abbrev cX10_worms : ByteArray := prog_12_method_64_code
def yX10_worms : MethodName := ⟨RX10, "worms", "(IIIII)J"⟩
abbrev cX10_year : ByteArray := prog_12_method_65_code
def yX10_year : MethodName := ⟨RX10, "year", "(III)I"⟩
abbrev cX10_pass : ByteArray := prog_12_method_66_code
def yX10_pass : MethodName := ⟨RX10, "pass", "(I)I"⟩
abbrev cX10_passAll : ByteArray := prog_12_method_67_code
def yX10_passAll : MethodName := ⟨RX10, "passAll", "()V"⟩
abbrev cX10_image : ByteArray := prog_12_method_68_code
def yX10_image : MethodName := ⟨RX10, "image", "(I)I"⟩
abbrev cX10_restore : ByteArray := prog_12_method_69_code
def yX10_restore : MethodName := ⟨RX10, "restore", "(I)I"⟩
abbrev cX10_toldOf : ByteArray := prog_12_method_70_code
def yX10_toldOf : MethodName := ⟨RX10, "toldOf", "(II)I"⟩
abbrev cX10_told : ByteArray := prog_12_method_71_code
def yX10_told : MethodName := ⟨RX10, "told", "(I)I"⟩
def RJ6 : String := "java/lang/Integer"
abbrev cJ6_compare_7cf53 : ByteArray := prog_13_method_40_code
def yJ6_compare_7cf53 : MethodName := ⟨RJ6, "compare", "(II)I"⟩
abbrev cJ6_bitCount_0f7a4 : ByteArray := prog_13_method_49_code
def yJ6_bitCount_0f7a4 : MethodName := ⟨RJ6, "bitCount", "(I)I"⟩
def RJ9 : String := "java/lang/Math"
abbrev cJ9_max_7cf53 : ByteArray := prog_14_method_65_code
def yJ9_max_7cf53 : MethodName := ⟨RJ9, "max", "(II)I"⟩
abbrev cJ9_max_f86c9 : ByteArray := prog_14_method_66_code
def yJ9_max_f86c9 : MethodName := ⟨RJ9, "max", "(JJ)J"⟩
abbrev cJ9_min_7cf53 : ByteArray := prog_14_method_69_code
def yJ9_min_7cf53 : MethodName := ⟨RJ9, "min", "(II)I"⟩
def RJ10 : String := "java/lang/System"
def RL : String := "MorningBiteLaw"
abbrev cL_law : ByteArray := code
def yL_law : MethodName := ⟨RL, "law", "([I)Z"⟩
abbrev vwCl : List vw_C := [(RX0, TX0, 8), (RX1, TX1, 8), (RX2, TX2, 3), (RX3, TX3, 11), (RX4, TX4, 6), (RX5, TX5, 3), (RX6, TX6, 3), (RX8, TX8, 2), (RX9, TX9, 8), (RX10, TX10, 38)]

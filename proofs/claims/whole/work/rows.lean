section
-- ===== PART A: goes FIRST, ahead of the names: the tables' words, and 'selects' of the private methods out of them =====
/-- a private method of a class that the tables say can be made, by its rows of tables_1 -/
def lw_okq (q : MethodName × Nat) : Prop := (q.1.cls ≠ "java/lang/invoke/MethodHandle" ∧ q.1.cls ≠ "java/lang/invoke/VarHandle") ∧ Cond.instantiable q.1.cls q.2 ∈ tables_1 ∧ Cond.privateMethod q.1 ∈ tables_1 ∧ Cond.instanceMethod q.1 ∈ tables_1
theorem lw_p0 : lw_okq (⟨"MorningBite$Pad", "addAct", "(III)V"⟩, 6) := ⟨⟨by decide +kernel, by decide +kernel⟩, List.mem_of_getElem? (i := 70) (by decide +kernel), List.mem_of_getElem? (i := 343) (by decide +kernel), List.mem_of_getElem? (i := 344) (by decide +kernel)⟩
theorem lw_p1 : lw_okq (⟨"MorningBite", "liveDays", "()I"⟩, 8) := ⟨⟨by decide +kernel, by decide +kernel⟩, List.mem_of_getElem? (i := 16) (by decide +kernel), List.mem_of_getElem? (i := 351) (by decide +kernel), List.mem_of_getElem? (i := 352) (by decide +kernel)⟩
theorem lw_p2 : lw_okq (⟨"MorningBite$Hill", "whyNotGive", "(II)I"⟩, 8) := ⟨⟨by decide +kernel, by decide +kernel⟩, List.mem_of_getElem? (i := 24) (by decide +kernel), List.mem_of_getElem? (i := 370) (by decide +kernel), List.mem_of_getElem? (i := 371) (by decide +kernel)⟩
theorem lw_p3 : lw_okq (⟨"MorningBite$Hill", "wake", "()V"⟩, 8) := ⟨⟨by decide +kernel, by decide +kernel⟩, List.mem_of_getElem? (i := 24) (by decide +kernel), List.mem_of_getElem? (i := 383) (by decide +kernel), List.mem_of_getElem? (i := 384) (by decide +kernel)⟩
theorem lw_p4 : lw_okq (⟨"MorningBite$Days", "tellMorning", "()V"⟩, 8) := ⟨⟨by decide +kernel, by decide +kernel⟩, List.mem_of_getElem? (i := 101) (by decide +kernel), List.mem_of_getElem? (i := 398) (by decide +kernel), List.mem_of_getElem? (i := 399) (by decide +kernel)⟩
theorem lw_p5 : lw_okq (⟨"MorningBite$Days", "leastPass", "()I"⟩, 8) := ⟨⟨by decide +kernel, by decide +kernel⟩, List.mem_of_getElem? (i := 101) (by decide +kernel), List.mem_of_getElem? (i := 402) (by decide +kernel), List.mem_of_getElem? (i := 403) (by decide +kernel)⟩
theorem lw_p6 : lw_okq (⟨"MorningBite$Days", "hasPassed", "(II)Z"⟩, 8) := ⟨⟨by decide +kernel, by decide +kernel⟩, List.mem_of_getElem? (i := 101) (by decide +kernel), List.mem_of_getElem? (i := 407) (by decide +kernel), List.mem_of_getElem? (i := 408) (by decide +kernel)⟩
theorem lw_p7 : lw_okq (⟨"MorningBite", "refuseKeeping", "(IIII)I"⟩, 8) := ⟨⟨by decide +kernel, by decide +kernel⟩, List.mem_of_getElem? (i := 16) (by decide +kernel), List.mem_of_getElem? (i := 447) (by decide +kernel), List.mem_of_getElem? (i := 448) (by decide +kernel)⟩
theorem lw_p8 : lw_okq (⟨"MorningBite$Keeper", "seat", "(LMorningBite$Hill;I)V"⟩, 11) := ⟨⟨by decide +kernel, by decide +kernel⟩, List.mem_of_getElem? (i := 141) (by decide +kernel), List.mem_of_getElem? (i := 458) (by decide +kernel), List.mem_of_getElem? (i := 459) (by decide +kernel)⟩
theorem lw_p9 : lw_okq (⟨"MorningBite$Keeper", "listAges", "(LMorningBite$Hill;)V"⟩, 11) := ⟨⟨by decide +kernel, by decide +kernel⟩, List.mem_of_getElem? (i := 141) (by decide +kernel), List.mem_of_getElem? (i := 463) (by decide +kernel), List.mem_of_getElem? (i := 464) (by decide +kernel)⟩
theorem lw_p10 : lw_okq (⟨"MorningBite$Keeper", "listNext", "(LMorningBite$Hill;II)V"⟩, 11) := ⟨⟨by decide +kernel, by decide +kernel⟩, List.mem_of_getElem? (i := 141) (by decide +kernel), List.mem_of_getElem? (i := 467) (by decide +kernel), List.mem_of_getElem? (i := 468) (by decide +kernel)⟩
theorem lw_p11 : lw_okq (⟨"MorningBite$Keeper", "lastsRest", "(LMorningBite$Hill;III)Z"⟩, 11) := ⟨⟨by decide +kernel, by decide +kernel⟩, List.mem_of_getElem? (i := 141) (by decide +kernel), List.mem_of_getElem? (i := 471) (by decide +kernel), List.mem_of_getElem? (i := 472) (by decide +kernel)⟩
theorem lw_p12 : lw_okq (⟨"MorningBite$Keeper", "findAge", "(II)I"⟩, 11) := ⟨⟨by decide +kernel, by decide +kernel⟩, List.mem_of_getElem? (i := 141) (by decide +kernel), List.mem_of_getElem? (i := 476) (by decide +kernel), List.mem_of_getElem? (i := 477) (by decide +kernel)⟩
theorem lw_p13 : lw_okq (⟨"MorningBite$Keeper", "countDay", "(I)V"⟩, 11) := ⟨⟨by decide +kernel, by decide +kernel⟩, List.mem_of_getElem? (i := 141) (by decide +kernel), List.mem_of_getElem? (i := 480) (by decide +kernel), List.mem_of_getElem? (i := 481) (by decide +kernel)⟩
theorem lw_p14 : lw_okq (⟨"MorningBite$Keeper", "countOf", "(II)I"⟩, 11) := ⟨⟨by decide +kernel, by decide +kernel⟩, List.mem_of_getElem? (i := 141) (by decide +kernel), List.mem_of_getElem? (i := 484) (by decide +kernel), List.mem_of_getElem? (i := 485) (by decide +kernel)⟩
theorem lw_p15 : lw_okq (⟨"MorningBite$Keeper", "bestMeals", "(IIII)I"⟩, 11) := ⟨⟨by decide +kernel, by decide +kernel⟩, List.mem_of_getElem? (i := 141) (by decide +kernel), List.mem_of_getElem? (i := 488) (by decide +kernel), List.mem_of_getElem? (i := 489) (by decide +kernel)⟩
def lw_privs_1 : List (MethodName × Nat) := [(⟨"MorningBite$Pad", "addAct", "(III)V"⟩, 6), (⟨"MorningBite", "liveDays", "()I"⟩, 8), (⟨"MorningBite$Hill", "whyNotGive", "(II)I"⟩, 8), (⟨"MorningBite$Hill", "wake", "()V"⟩, 8), (⟨"MorningBite$Days", "tellMorning", "()V"⟩, 8), (⟨"MorningBite$Days", "leastPass", "()I"⟩, 8), (⟨"MorningBite$Days", "hasPassed", "(II)Z"⟩, 8), (⟨"MorningBite", "refuseKeeping", "(IIII)I"⟩, 8), (⟨"MorningBite$Keeper", "seat", "(LMorningBite$Hill;I)V"⟩, 11), (⟨"MorningBite$Keeper", "listAges", "(LMorningBite$Hill;)V"⟩, 11), (⟨"MorningBite$Keeper", "listNext", "(LMorningBite$Hill;II)V"⟩, 11), (⟨"MorningBite$Keeper", "lastsRest", "(LMorningBite$Hill;III)Z"⟩, 11), (⟨"MorningBite$Keeper", "findAge", "(II)I"⟩, 11), (⟨"MorningBite$Keeper", "countDay", "(I)V"⟩, 11), (⟨"MorningBite$Keeper", "countOf", "(II)I"⟩, 11), (⟨"MorningBite$Keeper", "bestMeals", "(IIII)I"⟩, 11)]
theorem lw_r1 : ∀ q ∈ lw_privs_1, lw_okq q := List.forall_mem_cons.mpr ⟨lw_p0, List.forall_mem_cons.mpr ⟨lw_p1, List.forall_mem_cons.mpr ⟨lw_p2, List.forall_mem_cons.mpr ⟨lw_p3, List.forall_mem_cons.mpr ⟨lw_p4, List.forall_mem_cons.mpr ⟨lw_p5, List.forall_mem_cons.mpr ⟨lw_p6, List.forall_mem_cons.mpr ⟨lw_p7, List.forall_mem_cons.mpr ⟨lw_p8, List.forall_mem_cons.mpr ⟨lw_p9, List.forall_mem_cons.mpr ⟨lw_p10, List.forall_mem_cons.mpr ⟨lw_p11, List.forall_mem_cons.mpr ⟨lw_p12, List.forall_mem_cons.mpr ⟨lw_p13, List.forall_mem_cons.mpr ⟨lw_p14, List.forall_mem_cons.mpr ⟨lw_p15, fun _ h => absurd h List.not_mem_nil⟩⟩⟩⟩⟩⟩⟩⟩⟩⟩⟩⟩⟩⟩⟩⟩
theorem lw_p16 : lw_okq (⟨"MorningBite$Keeper", "next", "(IIII)I"⟩, 11) := ⟨⟨by decide +kernel, by decide +kernel⟩, List.mem_of_getElem? (i := 141) (by decide +kernel), List.mem_of_getElem? (i := 492) (by decide +kernel), List.mem_of_getElem? (i := 493) (by decide +kernel)⟩
theorem lw_p17 : lw_okq (⟨"MorningBite$Keeper", "fewestFrom", "(IIII)I"⟩, 11) := ⟨⟨by decide +kernel, by decide +kernel⟩, List.mem_of_getElem? (i := 141) (by decide +kernel), List.mem_of_getElem? (i := 496) (by decide +kernel), List.mem_of_getElem? (i := 497) (by decide +kernel)⟩
theorem lw_p18 : lw_okq (⟨"MorningBite$Keeper", "walk", "()V"⟩, 11) := ⟨⟨by decide +kernel, by decide +kernel⟩, List.mem_of_getElem? (i := 141) (by decide +kernel), List.mem_of_getElem? (i := 508) (by decide +kernel), List.mem_of_getElem? (i := 509) (by decide +kernel)⟩
theorem lw_p19 : lw_okq (⟨"MorningBite$Shares", "share", "(LMorningBite$Hill;III)V"⟩, 3) := ⟨⟨by decide +kernel, by decide +kernel⟩, List.mem_of_getElem? (i := 183) (by decide +kernel), List.mem_of_getElem? (i := 520) (by decide +kernel), List.mem_of_getElem? (i := 521) (by decide +kernel)⟩
theorem lw_p20 : lw_okq (⟨"MorningBite$Shares", "addShare", "(II)V"⟩, 3) := ⟨⟨by decide +kernel, by decide +kernel⟩, List.mem_of_getElem? (i := 183) (by decide +kernel), List.mem_of_getElem? (i := 524) (by decide +kernel), List.mem_of_getElem? (i := 525) (by decide +kernel)⟩
theorem lw_p21 : lw_okq (⟨"MorningBite$Shares", "envies", "(LMorningBite$Hill;I)Z"⟩, 3) := ⟨⟨by decide +kernel, by decide +kernel⟩, List.mem_of_getElem? (i := 183) (by decide +kernel), List.mem_of_getElem? (i := 530) (by decide +kernel), List.mem_of_getElem? (i := 531) (by decide +kernel)⟩
theorem lw_p22 : lw_okq (⟨"MorningBite$Shares", "wronged", "(LMorningBite$Hill;II)Z"⟩, 3) := ⟨⟨by decide +kernel, by decide +kernel⟩, List.mem_of_getElem? (i := 183) (by decide +kernel), List.mem_of_getElem? (i := 534) (by decide +kernel), List.mem_of_getElem? (i := 535) (by decide +kernel)⟩
theorem lw_p23 : lw_okq (⟨"MorningBite$Sights", "fits", "(LMorningBite$Hill;I)Z"⟩, 3) := ⟨⟨by decide +kernel, by decide +kernel⟩, List.mem_of_getElem? (i := 201) (by decide +kernel), List.mem_of_getElem? (i := 565) (by decide +kernel), List.mem_of_getElem? (i := 566) (by decide +kernel)⟩
theorem lw_p24 : lw_okq (⟨"MorningBite", "toldOf", "(II)I"⟩, 8) := ⟨⟨by decide +kernel, by decide +kernel⟩, List.mem_of_getElem? (i := 16) (by decide +kernel), List.mem_of_getElem? (i := 657) (by decide +kernel), List.mem_of_getElem? (i := 658) (by decide +kernel)⟩
theorem lw_p25 : lw_okq (⟨"MorningBiteModel", "isOne", "(I)Z"⟩, 38) := ⟨⟨by decide +kernel, by decide +kernel⟩, List.mem_of_getElem? (i := 661) (by decide +kernel), List.mem_of_getElem? (i := 802) (by decide +kernel), List.mem_of_getElem? (i := 803) (by decide +kernel)⟩
theorem lw_p26 : lw_okq (⟨"MorningBiteModel", "readOn", "(II)I"⟩, 38) := ⟨⟨by decide +kernel, by decide +kernel⟩, List.mem_of_getElem? (i := 661) (by decide +kernel), List.mem_of_getElem? (i := 826) (by decide +kernel), List.mem_of_getElem? (i := 827) (by decide +kernel)⟩
theorem lw_p27 : lw_okq (⟨"MorningBiteModel", "close", "(II)I"⟩, 38) := ⟨⟨by decide +kernel, by decide +kernel⟩, List.mem_of_getElem? (i := 661) (by decide +kernel), List.mem_of_getElem? (i := 835) (by decide +kernel), List.mem_of_getElem? (i := 836) (by decide +kernel)⟩
theorem lw_p28 : lw_okq (⟨"MorningBiteModel", "refusal", "()I"⟩, 38) := ⟨⟨by decide +kernel, by decide +kernel⟩, List.mem_of_getElem? (i := 661) (by decide +kernel), List.mem_of_getElem? (i := 843) (by decide +kernel), List.mem_of_getElem? (i := 844) (by decide +kernel)⟩
theorem lw_p29 : lw_okq (⟨"MorningBiteModel", "keepNow", "()V"⟩, 38) := ⟨⟨by decide +kernel, by decide +kernel⟩, List.mem_of_getElem? (i := 661) (by decide +kernel), List.mem_of_getElem? (i := 847) (by decide +kernel), List.mem_of_getElem? (i := 848) (by decide +kernel)⟩
theorem lw_p30 : lw_okq (⟨"MorningBiteModel", "goDays", "()V"⟩, 38) := ⟨⟨by decide +kernel, by decide +kernel⟩, List.mem_of_getElem? (i := 661) (by decide +kernel), List.mem_of_getElem? (i := 852) (by decide +kernel), List.mem_of_getElem? (i := 853) (by decide +kernel)⟩
theorem lw_p31 : lw_okq (⟨"MorningBiteModel", "beginCount", "()V"⟩, 38) := ⟨⟨by decide +kernel, by decide +kernel⟩, List.mem_of_getElem? (i := 661) (by decide +kernel), List.mem_of_getElem? (i := 856) (by decide +kernel), List.mem_of_getElem? (i := 857) (by decide +kernel)⟩
def lw_privs_2 : List (MethodName × Nat) := [(⟨"MorningBite$Keeper", "next", "(IIII)I"⟩, 11), (⟨"MorningBite$Keeper", "fewestFrom", "(IIII)I"⟩, 11), (⟨"MorningBite$Keeper", "walk", "()V"⟩, 11), (⟨"MorningBite$Shares", "share", "(LMorningBite$Hill;III)V"⟩, 3), (⟨"MorningBite$Shares", "addShare", "(II)V"⟩, 3), (⟨"MorningBite$Shares", "envies", "(LMorningBite$Hill;I)Z"⟩, 3), (⟨"MorningBite$Shares", "wronged", "(LMorningBite$Hill;II)Z"⟩, 3), (⟨"MorningBite$Sights", "fits", "(LMorningBite$Hill;I)Z"⟩, 3), (⟨"MorningBite", "toldOf", "(II)I"⟩, 8), (⟨"MorningBiteModel", "isOne", "(I)Z"⟩, 38), (⟨"MorningBiteModel", "readOn", "(II)I"⟩, 38), (⟨"MorningBiteModel", "close", "(II)I"⟩, 38), (⟨"MorningBiteModel", "refusal", "()I"⟩, 38), (⟨"MorningBiteModel", "keepNow", "()V"⟩, 38), (⟨"MorningBiteModel", "goDays", "()V"⟩, 38), (⟨"MorningBiteModel", "beginCount", "()V"⟩, 38)]
theorem lw_r2 : ∀ q ∈ lw_privs_2, lw_okq q := List.forall_mem_cons.mpr ⟨lw_p16, List.forall_mem_cons.mpr ⟨lw_p17, List.forall_mem_cons.mpr ⟨lw_p18, List.forall_mem_cons.mpr ⟨lw_p19, List.forall_mem_cons.mpr ⟨lw_p20, List.forall_mem_cons.mpr ⟨lw_p21, List.forall_mem_cons.mpr ⟨lw_p22, List.forall_mem_cons.mpr ⟨lw_p23, List.forall_mem_cons.mpr ⟨lw_p24, List.forall_mem_cons.mpr ⟨lw_p25, List.forall_mem_cons.mpr ⟨lw_p26, List.forall_mem_cons.mpr ⟨lw_p27, List.forall_mem_cons.mpr ⟨lw_p28, List.forall_mem_cons.mpr ⟨lw_p29, List.forall_mem_cons.mpr ⟨lw_p30, List.forall_mem_cons.mpr ⟨lw_p31, fun _ h => absurd h List.not_mem_nil⟩⟩⟩⟩⟩⟩⟩⟩⟩⟩⟩⟩⟩⟩⟩⟩
theorem lw_p32 : lw_okq (⟨"MorningBiteModel", "whyNot", "(III)I"⟩, 38) := ⟨⟨by decide +kernel, by decide +kernel⟩, List.mem_of_getElem? (i := 661) (by decide +kernel), List.mem_of_getElem? (i := 860) (by decide +kernel), List.mem_of_getElem? (i := 861) (by decide +kernel)⟩
theorem lw_p33 : lw_okq (⟨"MorningBiteModel", "whyNotGive", "(II)I"⟩, 38) := ⟨⟨by decide +kernel, by decide +kernel⟩, List.mem_of_getElem? (i := 661) (by decide +kernel), List.mem_of_getElem? (i := 864) (by decide +kernel), List.mem_of_getElem? (i := 865) (by decide +kernel)⟩
theorem lw_p34 : lw_okq (⟨"MorningBiteModel", "happen", "(III)V"⟩, 38) := ⟨⟨by decide +kernel, by decide +kernel⟩, List.mem_of_getElem? (i := 661) (by decide +kernel), List.mem_of_getElem? (i := 868) (by decide +kernel), List.mem_of_getElem? (i := 869) (by decide +kernel)⟩
theorem lw_p35 : lw_okq (⟨"MorningBiteModel", "eat", "(II)V"⟩, 38) := ⟨⟨by decide +kernel, by decide +kernel⟩, List.mem_of_getElem? (i := 661) (by decide +kernel), List.mem_of_getElem? (i := 872) (by decide +kernel), List.mem_of_getElem? (i := 873) (by decide +kernel)⟩
theorem lw_p36 : lw_okq (⟨"MorningBiteModel", "passMorning", "()V"⟩, 38) := ⟨⟨by decide +kernel, by decide +kernel⟩, List.mem_of_getElem? (i := 661) (by decide +kernel), List.mem_of_getElem? (i := 876) (by decide +kernel), List.mem_of_getElem? (i := 877) (by decide +kernel)⟩
theorem lw_p37 : lw_okq (⟨"MorningBiteModel", "lookBehind", "(III)I"⟩, 38) := ⟨⟨by decide +kernel, by decide +kernel⟩, List.mem_of_getElem? (i := 661) (by decide +kernel), List.mem_of_getElem? (i := 880) (by decide +kernel), List.mem_of_getElem? (i := 881) (by decide +kernel)⟩
theorem lw_p38 : lw_okq (⟨"MorningBiteModel", "passing", "()I"⟩, 38) := ⟨⟨by decide +kernel, by decide +kernel⟩, List.mem_of_getElem? (i := 661) (by decide +kernel), List.mem_of_getElem? (i := 884) (by decide +kernel), List.mem_of_getElem? (i := 885) (by decide +kernel)⟩
theorem lw_p39 : lw_okq (⟨"MorningBiteModel", "oldestNow", "()I"⟩, 38) := ⟨⟨by decide +kernel, by decide +kernel⟩, List.mem_of_getElem? (i := 661) (by decide +kernel), List.mem_of_getElem? (i := 888) (by decide +kernel), List.mem_of_getElem? (i := 889) (by decide +kernel)⟩
theorem lw_p40 : lw_okq (⟨"MorningBiteModel", "back", "(I)I"⟩, 38) := ⟨⟨by decide +kernel, by decide +kernel⟩, List.mem_of_getElem? (i := 661) (by decide +kernel), List.mem_of_getElem? (i := 892) (by decide +kernel), List.mem_of_getElem? (i := 893) (by decide +kernel)⟩
theorem lw_p41 : lw_okq (⟨"MorningBiteModel", "planRefusal", "(IIII)I"⟩, 38) := ⟨⟨by decide +kernel, by decide +kernel⟩, List.mem_of_getElem? (i := 661) (by decide +kernel), List.mem_of_getElem? (i := 924) (by decide +kernel), List.mem_of_getElem? (i := 925) (by decide +kernel)⟩
theorem lw_p42 : lw_okq (⟨"MorningBiteModel", "findPlan", "(IIII)V"⟩, 38) := ⟨⟨by decide +kernel, by decide +kernel⟩, List.mem_of_getElem? (i := 661) (by decide +kernel), List.mem_of_getElem? (i := 930) (by decide +kernel), List.mem_of_getElem? (i := 931) (by decide +kernel)⟩
theorem lw_p43 : lw_okq (⟨"MorningBiteModel", "layAges", "(III)V"⟩, 38) := ⟨⟨by decide +kernel, by decide +kernel⟩, List.mem_of_getElem? (i := 661) (by decide +kernel), List.mem_of_getElem? (i := 934) (by decide +kernel), List.mem_of_getElem? (i := 935) (by decide +kernel)⟩
theorem lw_p44 : lw_okq (⟨"MorningBiteModel", "layAgeThen", "(IIII)V"⟩, 38) := ⟨⟨by decide +kernel, by decide +kernel⟩, List.mem_of_getElem? (i := 661) (by decide +kernel), List.mem_of_getElem? (i := 938) (by decide +kernel), List.mem_of_getElem? (i := 939) (by decide +kernel)⟩
theorem lw_p45 : lw_okq (⟨"MorningBiteModel", "ageAt", "(II)I"⟩, 38) := ⟨⟨by decide +kernel, by decide +kernel⟩, List.mem_of_getElem? (i := 661) (by decide +kernel), List.mem_of_getElem? (i := 942) (by decide +kernel), List.mem_of_getElem? (i := 943) (by decide +kernel)⟩
theorem lw_p46 : lw_okq (⟨"MorningBiteModel", "layHalves", "(II)V"⟩, 38) := ⟨⟨by decide +kernel, by decide +kernel⟩, List.mem_of_getElem? (i := 661) (by decide +kernel), List.mem_of_getElem? (i := 946) (by decide +kernel), List.mem_of_getElem? (i := 947) (by decide +kernel)⟩
theorem lw_p47 : lw_okq (⟨"MorningBiteModel", "manyAt", "(II)I"⟩, 38) := ⟨⟨by decide +kernel, by decide +kernel⟩, List.mem_of_getElem? (i := 661) (by decide +kernel), List.mem_of_getElem? (i := 950) (by decide +kernel), List.mem_of_getElem? (i := 951) (by decide +kernel)⟩
def lw_privs_3 : List (MethodName × Nat) := [(⟨"MorningBiteModel", "whyNot", "(III)I"⟩, 38), (⟨"MorningBiteModel", "whyNotGive", "(II)I"⟩, 38), (⟨"MorningBiteModel", "happen", "(III)V"⟩, 38), (⟨"MorningBiteModel", "eat", "(II)V"⟩, 38), (⟨"MorningBiteModel", "passMorning", "()V"⟩, 38), (⟨"MorningBiteModel", "lookBehind", "(III)I"⟩, 38), (⟨"MorningBiteModel", "passing", "()I"⟩, 38), (⟨"MorningBiteModel", "oldestNow", "()I"⟩, 38), (⟨"MorningBiteModel", "back", "(I)I"⟩, 38), (⟨"MorningBiteModel", "planRefusal", "(IIII)I"⟩, 38), (⟨"MorningBiteModel", "findPlan", "(IIII)V"⟩, 38), (⟨"MorningBiteModel", "layAges", "(III)V"⟩, 38), (⟨"MorningBiteModel", "layAgeThen", "(IIII)V"⟩, 38), (⟨"MorningBiteModel", "ageAt", "(II)I"⟩, 38), (⟨"MorningBiteModel", "layHalves", "(II)V"⟩, 38), (⟨"MorningBiteModel", "manyAt", "(II)I"⟩, 38)]
theorem lw_r3 : ∀ q ∈ lw_privs_3, lw_okq q := List.forall_mem_cons.mpr ⟨lw_p32, List.forall_mem_cons.mpr ⟨lw_p33, List.forall_mem_cons.mpr ⟨lw_p34, List.forall_mem_cons.mpr ⟨lw_p35, List.forall_mem_cons.mpr ⟨lw_p36, List.forall_mem_cons.mpr ⟨lw_p37, List.forall_mem_cons.mpr ⟨lw_p38, List.forall_mem_cons.mpr ⟨lw_p39, List.forall_mem_cons.mpr ⟨lw_p40, List.forall_mem_cons.mpr ⟨lw_p41, List.forall_mem_cons.mpr ⟨lw_p42, List.forall_mem_cons.mpr ⟨lw_p43, List.forall_mem_cons.mpr ⟨lw_p44, List.forall_mem_cons.mpr ⟨lw_p45, List.forall_mem_cons.mpr ⟨lw_p46, List.forall_mem_cons.mpr ⟨lw_p47, fun _ h => absurd h List.not_mem_nil⟩⟩⟩⟩⟩⟩⟩⟩⟩⟩⟩⟩⟩⟩⟩⟩
theorem lw_p48 : lw_okq (⟨"MorningBiteModel", "halvesBy", "(IIIIII)I"⟩, 38) := ⟨⟨by decide +kernel, by decide +kernel⟩, List.mem_of_getElem? (i := 661) (by decide +kernel), List.mem_of_getElem? (i := 954) (by decide +kernel), List.mem_of_getElem? (i := 955) (by decide +kernel)⟩
theorem lw_p49 : lw_okq (⟨"MorningBiteModel", "thenOf", "(IIII)I"⟩, 38) := ⟨⟨by decide +kernel, by decide +kernel⟩, List.mem_of_getElem? (i := 661) (by decide +kernel), List.mem_of_getElem? (i := 961) (by decide +kernel), List.mem_of_getElem? (i := 962) (by decide +kernel)⟩
theorem lw_p50 : lw_okq (⟨"MorningBiteModel", "firstHow", "(III)I"⟩, 38) := ⟨⟨by decide +kernel, by decide +kernel⟩, List.mem_of_getElem? (i := 661) (by decide +kernel), List.mem_of_getElem? (i := 972) (by decide +kernel), List.mem_of_getElem? (i := 973) (by decide +kernel)⟩
theorem lw_p51 : lw_okq (⟨"MorningBiteModel", "shareOf", "(II)I"⟩, 38) := ⟨⟨by decide +kernel, by decide +kernel⟩, List.mem_of_getElem? (i := 661) (by decide +kernel), List.mem_of_getElem? (i := 981) (by decide +kernel), List.mem_of_getElem? (i := 982) (by decide +kernel)⟩
theorem lw_p52 : lw_okq (⟨"MorningBiteModel", "isEnvyless", "()Z"⟩, 38) := ⟨⟨by decide +kernel, by decide +kernel⟩, List.mem_of_getElem? (i := 661) (by decide +kernel), List.mem_of_getElem? (i := 985) (by decide +kernel), List.mem_of_getElem? (i := 986) (by decide +kernel)⟩
theorem lw_p53 : lw_okq (⟨"MorningBiteModel", "givers", "()I"⟩, 38) := ⟨⟨by decide +kernel, by decide +kernel⟩, List.mem_of_getElem? (i := 661) (by decide +kernel), List.mem_of_getElem? (i := 1006) (by decide +kernel), List.mem_of_getElem? (i := 1007) (by decide +kernel)⟩
theorem lw_p54 : lw_okq (⟨"MorningBiteModel", "fits", "(I)Z"⟩, 38) := ⟨⟨by decide +kernel, by decide +kernel⟩, List.mem_of_getElem? (i := 661) (by decide +kernel), List.mem_of_getElem? (i := 1010) (by decide +kernel), List.mem_of_getElem? (i := 1011) (by decide +kernel)⟩
theorem lw_p55 : lw_okq (⟨"MorningBiteModel", "lookedBy", "(II)I"⟩, 38) := ⟨⟨by decide +kernel, by decide +kernel⟩, List.mem_of_getElem? (i := 661) (by decide +kernel), List.mem_of_getElem? (i := 1014) (by decide +kernel), List.mem_of_getElem? (i := 1015) (by decide +kernel)⟩
theorem lw_p56 : lw_okq (⟨"MorningBiteModel", "mostAlike", "(II)I"⟩, 38) := ⟨⟨by decide +kernel, by decide +kernel⟩, List.mem_of_getElem? (i := 661) (by decide +kernel), List.mem_of_getElem? (i := 1022) (by decide +kernel), List.mem_of_getElem? (i := 1023) (by decide +kernel)⟩
theorem lw_p57 : lw_okq (⟨"MorningBiteModel", "wormyDay", "(II)V"⟩, 38) := ⟨⟨by decide +kernel, by decide +kernel⟩, List.mem_of_getElem? (i := 661) (by decide +kernel), List.mem_of_getElem? (i := 1038) (by decide +kernel), List.mem_of_getElem? (i := 1039) (by decide +kernel)⟩
theorem lw_p58 : lw_okq (⟨"MorningBiteModel", "passAll", "()V"⟩, 38) := ⟨⟨by decide +kernel, by decide +kernel⟩, List.mem_of_getElem? (i := 661) (by decide +kernel), List.mem_of_getElem? (i := 1057) (by decide +kernel), List.mem_of_getElem? (i := 1058) (by decide +kernel)⟩
theorem lw_p59 : lw_okq (⟨"MorningBiteModel", "pass", "(I)I"⟩, 38) := ⟨⟨by decide +kernel, by decide +kernel⟩, List.mem_of_getElem? (i := 661) (by decide +kernel), List.mem_of_getElem? (i := 1061) (by decide +kernel), List.mem_of_getElem? (i := 1062) (by decide +kernel)⟩
theorem lw_p60 : lw_okq (⟨"MorningBiteModel", "toldOf", "(II)I"⟩, 38) := ⟨⟨by decide +kernel, by decide +kernel⟩, List.mem_of_getElem? (i := 661) (by decide +kernel), List.mem_of_getElem? (i := 1074) (by decide +kernel), List.mem_of_getElem? (i := 1075) (by decide +kernel)⟩
def lw_privs_4 : List (MethodName × Nat) := [(⟨"MorningBiteModel", "halvesBy", "(IIIIII)I"⟩, 38), (⟨"MorningBiteModel", "thenOf", "(IIII)I"⟩, 38), (⟨"MorningBiteModel", "firstHow", "(III)I"⟩, 38), (⟨"MorningBiteModel", "shareOf", "(II)I"⟩, 38), (⟨"MorningBiteModel", "isEnvyless", "()Z"⟩, 38), (⟨"MorningBiteModel", "givers", "()I"⟩, 38), (⟨"MorningBiteModel", "fits", "(I)Z"⟩, 38), (⟨"MorningBiteModel", "lookedBy", "(II)I"⟩, 38), (⟨"MorningBiteModel", "mostAlike", "(II)I"⟩, 38), (⟨"MorningBiteModel", "wormyDay", "(II)V"⟩, 38), (⟨"MorningBiteModel", "passAll", "()V"⟩, 38), (⟨"MorningBiteModel", "pass", "(I)I"⟩, 38), (⟨"MorningBiteModel", "toldOf", "(II)I"⟩, 38)]
theorem lw_r4 : ∀ q ∈ lw_privs_4, lw_okq q := List.forall_mem_cons.mpr ⟨lw_p48, List.forall_mem_cons.mpr ⟨lw_p49, List.forall_mem_cons.mpr ⟨lw_p50, List.forall_mem_cons.mpr ⟨lw_p51, List.forall_mem_cons.mpr ⟨lw_p52, List.forall_mem_cons.mpr ⟨lw_p53, List.forall_mem_cons.mpr ⟨lw_p54, List.forall_mem_cons.mpr ⟨lw_p55, List.forall_mem_cons.mpr ⟨lw_p56, List.forall_mem_cons.mpr ⟨lw_p57, List.forall_mem_cons.mpr ⟨lw_p58, List.forall_mem_cons.mpr ⟨lw_p59, List.forall_mem_cons.mpr ⟨lw_p60, fun _ h => absurd h List.not_mem_nil⟩⟩⟩⟩⟩⟩⟩⟩⟩⟩⟩⟩⟩
def lw_privs : List (MethodName × Nat) := lw_privs_1 ++ (lw_privs_2 ++ (lw_privs_3 ++ (lw_privs_4)))
def lw_tbl : List Cond := k2_sels lw_privs ++ tables_1
theorem lw_privs_ok : ∀ q ∈ lw_privs, lw_okq q := by
  show ∀ q ∈ lw_privs_1 ++ (lw_privs_2 ++ (lw_privs_3 ++ (lw_privs_4))), lw_okq q
  exact List.forall_mem_append.mpr ⟨lw_r1, List.forall_mem_append.mpr ⟨lw_r2, List.forall_mem_append.mpr ⟨lw_r3, lw_r4⟩⟩⟩
def RX0 : String := "MorningBite$Days"
def TX0 : u_T := fun k => match k with
  | 0 => ("MorningBite$Days", "end", "LMorningBite$Hill;", true)
  | 1 => ("MorningBite$Days", "ahead", "[I", true)
  | 2 => ("MorningBite$Days", "oldestAt", "[I", true)
  | 3 => ("MorningBite$Days", "mornings", "I", false)
  | 4 => ("MorningBite$Days", "badAct", "I", false)
  | 5 => ("MorningBite$Days", "badWhy", "I", false)
  | 6 => ("MorningBite$Days", "passMorning", "I", false)
  | _ => ("MorningBite$Days", "passPair", "I", false)
def tyX0 : Nat → FieldType := fun k => match k with
  | 0 => .object "MorningBite$Hill"
  | 1 => .array .int
  | 2 => .array .int
  | 3 => .int
  | 4 => .int
  | 5 => .int
  | 6 => .int
  | _ => .int
abbrev wsX00 : List Cond := u_ws RX0 TX0 8
theorem nmX0 : ∀ a, a < 8 → ∀ b, b < 8 → a ≠ b → (TX0 a).2.1 ≠ (TX0 b).2.1 := by decide +kernel
theorem tyX0_ok : ∀ k, k < 8 → parseFieldDescriptor (TX0 k).2.2.1 = some (tyX0 k) := by decide +kernel
abbrev cX0_init : ByteArray := prog_2_method_1_code
def yX0_init : MethodName := ⟨RX0, "<init>", "()V"⟩
abbrev cX0_live : ByteArray := prog_2_method_2_code
def yX0_live : MethodName := ⟨RX0, "live", "(LMorningBite$Hill;LMorningBite$Pad;)V"⟩
abbrev cX0_tellMorning : ByteArray := prog_2_method_3_code
def yX0_tellMorning : MethodName := ⟨RX0, "tellMorning", "()V"⟩
abbrev cX0_leastPass : ByteArray := prog_2_method_4_code
def yX0_leastPass : MethodName := ⟨RX0, "leastPass", "()I"⟩
abbrev cX0_hasPassed : ByteArray := prog_2_method_5_code
def yX0_hasPassed : MethodName := ⟨RX0, "hasPassed", "(II)Z"⟩
def RX1 : String := "MorningBite$Hill"
def TX1 : u_T := fun k => match k with
  | 0 => ("MorningBite$Hill", "looks", "[I", true)
  | 1 => ("MorningBite$Hill", "pace", "[I", true)
  | 2 => ("MorningBite$Hill", "youth", "[I", true)
  | 3 => ("MorningBite$Hill", "eaten", "[I", true)
  | 4 => ("MorningBite$Hill", "there", "I", false)
  | 5 => ("MorningBite$Hill", "basket", "I", false)
  | 6 => ("MorningBite$Hill", "grown", "I", false)
  | _ => ("MorningBite$Hill", "she", "I", false)
def tyX1 : Nat → FieldType := fun k => match k with
  | 0 => .array .int
  | 1 => .array .int
  | 2 => .array .int
  | 3 => .array .int
  | 4 => .int
  | 5 => .int
  | 6 => .int
  | _ => .int
abbrev wsX10 : List Cond := u_ws RX1 TX1 8
theorem nmX1 : ∀ a, a < 8 → ∀ b, b < 8 → a ≠ b → (TX1 a).2.1 ≠ (TX1 b).2.1 := by decide +kernel
theorem tyX1_ok : ∀ k, k < 8 → parseFieldDescriptor (TX1 k).2.2.1 = some (tyX1 k) := by decide +kernel
abbrev cX1_init : ByteArray := prog_3_method_1_code
def yX1_init : MethodName := ⟨RX1, "<init>", "()V"⟩
abbrev cX1_has : ByteArray := prog_3_method_2_code
def yX1_has : MethodName := ⟨RX1, "has", "(I)Z"⟩
abbrev cX1_people : ByteArray := prog_3_method_3_code
def yX1_people : MethodName := ⟨RX1, "people", "()I"⟩
abbrev cX1_settle : ByteArray := prog_3_method_4_code
def yX1_settle : MethodName := ⟨RX1, "settle", "(IIII)V"⟩
abbrev cX1_drop : ByteArray := prog_3_method_5_code
def yX1_drop : MethodName := ⟨RX1, "drop", "(I)V"⟩
abbrev cX1_takeOver : ByteArray := prog_3_method_6_code
def yX1_takeOver : MethodName := ⟨RX1, "takeOver", "(LMorningBite$Hill;)V"⟩
abbrev cX1_whyNot : ByteArray := prog_3_method_7_code
def yX1_whyNot : MethodName := ⟨RX1, "whyNot", "(III)I"⟩
abbrev cX1_whyNotGive : ByteArray := prog_3_method_8_code
def yX1_whyNotGive : MethodName := ⟨RX1, "whyNotGive", "(II)I"⟩
abbrev cX1_halvesOf : ByteArray := prog_3_method_9_code
def yX1_halvesOf : MethodName := ⟨RX1, "halvesOf", "(I)I"⟩
abbrev cX1_act : ByteArray := prog_3_method_10_code
def yX1_act : MethodName := ⟨RX1, "act", "(III)V"⟩
abbrev cX1_wake : ByteArray := prog_3_method_11_code
def yX1_wake : MethodName := ⟨RX1, "wake", "()V"⟩
abbrev cX1_aged : ByteArray := prog_3_method_12_code
def yX1_aged : MethodName := ⟨RX1, "aged", "(III)I"⟩
abbrev cX1_oldestOne : ByteArray := prog_3_method_13_code
def yX1_oldestOne : MethodName := ⟨RX1, "oldestOne", "()I"⟩
abbrev cX1_looksTogether : ByteArray := prog_3_method_14_code
def yX1_looksTogether : MethodName := ⟨RX1, "looksTogether", "()I"⟩
def RX2 : String := "MorningBite$Image"
def TX2 : u_T := fun k => match k with
  | 0 => ("MorningBite$Image", "hill", "LMorningBite$Hill;", true)
  | 1 => ("MorningBite$Image", "sights", "LMorningBite$Sights;", true)
  | _ => ("MorningBite$Image", "kept", "Z", false)
def tyX2 : Nat → FieldType := fun k => match k with
  | 0 => .object "MorningBite$Hill"
  | 1 => .object "MorningBite$Sights"
  | _ => .boolean
abbrev wsX20 : List Cond := u_ws RX2 TX2 3
theorem nmX2 : ∀ a, a < 3 → ∀ b, b < 3 → a ≠ b → (TX2 a).2.1 ≠ (TX2 b).2.1 := by decide +kernel
theorem tyX2_ok : ∀ k, k < 3 → parseFieldDescriptor (TX2 k).2.2.1 = some (tyX2 k) := by decide +kernel
abbrev cX2_init : ByteArray := prog_4_method_1_code
def yX2_init : MethodName := ⟨RX2, "<init>", "()V"⟩
abbrev cX2_keep : ByteArray := prog_4_method_2_code
def yX2_keep : MethodName := ⟨RX2, "keep", "(LMorningBite$Hill;LMorningBite$Sights;)V"⟩
abbrev cX2_giveBack : ByteArray := prog_4_method_3_code
def yX2_giveBack : MethodName := ⟨RX2, "giveBack", "(LMorningBite$Hill;LMorningBite$Sights;)V"⟩
def RX3 : String := "MorningBite$Keeper"
def TX3 : u_T := fun k => match k with
  | 0 => ("MorningBite$Keeper", "seats", "[I", true)
  | 1 => ("MorningBite$Keeper", "ages", "[[I", true)
  | 2 => ("MorningBite$Keeper", "counts", "[I", true)
  | 3 => ("MorningBite$Keeper", "nexts", "[[I", true)
  | 4 => ("MorningBite$Keeper", "fewest", "[I", true)
  | 5 => ("MorningBite$Keeper", "starts", "[I", true)
  | 6 => ("MorningBite$Keeper", "row", "[I", true)
  | 7 => ("MorningBite$Keeper", "days", "I", false)
  | 8 => ("MorningBite$Keeper", "halves", "I", false)
  | 9 => ("MorningBite$Keeper", "most", "I", false)
  | _ => ("MorningBite$Keeper", "pick", "I", false)
def tyX3 : Nat → FieldType := fun k => match k with
  | 0 => .array .int
  | 1 => .array (.array .int)
  | 2 => .array .int
  | 3 => .array (.array .int)
  | 4 => .array .int
  | 5 => .array .int
  | 6 => .array .int
  | 7 => .int
  | 8 => .int
  | 9 => .int
  | _ => .int
abbrev wsX30 : List Cond := u_ws RX3 TX3 11
theorem nmX3 : ∀ a, a < 11 → ∀ b, b < 11 → a ≠ b → (TX3 a).2.1 ≠ (TX3 b).2.1 := by decide +kernel
theorem tyX3_ok : ∀ k, k < 11 → parseFieldDescriptor (TX3 k).2.2.1 = some (tyX3 k) := by decide +kernel
abbrev cX3_init : ByteArray := prog_5_method_1_code
def yX3_init : MethodName := ⟨RX3, "<init>", "()V"⟩
abbrev cX3_solve : ByteArray := prog_5_method_2_code
def yX3_solve : MethodName := ⟨RX3, "solve", "(LMorningBite$Hill;IIII)I"⟩
abbrev cX3_seat : ByteArray := prog_5_method_3_code
def yX3_seat : MethodName := ⟨RX3, "seat", "(LMorningBite$Hill;I)V"⟩
abbrev cX3_listAges : ByteArray := prog_5_method_4_code
def yX3_listAges : MethodName := ⟨RX3, "listAges", "(LMorningBite$Hill;)V"⟩
abbrev cX3_listNext : ByteArray := prog_5_method_5_code
def yX3_listNext : MethodName := ⟨RX3, "listNext", "(LMorningBite$Hill;II)V"⟩
abbrev cX3_lastsRest : ByteArray := prog_5_method_6_code
def yX3_lastsRest : MethodName := ⟨RX3, "lastsRest", "(LMorningBite$Hill;III)Z"⟩
abbrev cX3_findAge : ByteArray := prog_5_method_7_code
def yX3_findAge : MethodName := ⟨RX3, "findAge", "(II)I"⟩
abbrev cX3_countOf : ByteArray := prog_5_method_8_code
def yX3_countOf : MethodName := ⟨RX3, "countOf", "(II)I"⟩
abbrev cX3_countDay : ByteArray := prog_5_method_9_code
def yX3_countDay : MethodName := ⟨RX3, "countDay", "(I)V"⟩
abbrev cX3_bestMeals : ByteArray := prog_5_method_10_code
def yX3_bestMeals : MethodName := ⟨RX3, "bestMeals", "(IIII)I"⟩
abbrev cX3_next : ByteArray := prog_5_method_11_code
def yX3_next : MethodName := ⟨RX3, "next", "(IIII)I"⟩
abbrev cX3_fewestFrom : ByteArray := prog_5_method_12_code
def yX3_fewestFrom : MethodName := ⟨RX3, "fewestFrom", "(IIII)I"⟩
abbrev cX3_eats : ByteArray := prog_5_method_13_code
def yX3_eats : MethodName := ⟨RX3, "eats", "(II)I"⟩
abbrev cX3_walk : ByteArray := prog_5_method_14_code
def yX3_walk : MethodName := ⟨RX3, "walk", "()V"⟩
def RX4 : String := "MorningBite$Pad"
def TX4 : u_T := fun k => match k with
  | 0 => ("MorningBite$Pad", "signs", "[I", true)
  | 1 => ("MorningBite$Pad", "kinds", "[I", true)
  | 2 => ("MorningBite$Pad", "doers", "[I", true)
  | 3 => ("MorningBite$Pad", "receivers", "[I", true)
  | 4 => ("MorningBite$Pad", "size", "I", false)
  | _ => ("MorningBite$Pad", "acts", "I", false)
def tyX4 : Nat → FieldType := fun k => match k with
  | 0 => .array .int
  | 1 => .array .int
  | 2 => .array .int
  | 3 => .array .int
  | 4 => .int
  | _ => .int
abbrev wsX40 : List Cond := u_ws RX4 TX4 6
theorem nmX4 : ∀ a, a < 6 → ∀ b, b < 6 → a ≠ b → (TX4 a).2.1 ≠ (TX4 b).2.1 := by decide +kernel
theorem tyX4_ok : ∀ k, k < 6 → parseFieldDescriptor (TX4 k).2.2.1 = some (tyX4 k) := by decide +kernel
abbrev cX4_init : ByteArray := prog_6_method_1_code
def yX4_init : MethodName := ⟨RX4, "<init>", "()V"⟩
abbrev cX4_add : ByteArray := prog_6_method_2_code
def yX4_add : MethodName := ⟨RX4, "add", "(I)Z"⟩
abbrev cX4_read : ByteArray := prog_6_method_3_code
def yX4_read : MethodName := ⟨RX4, "read", "()I"⟩
abbrev cX4_isLetter : ByteArray := prog_6_method_4_code
def yX4_isLetter : MethodName := ⟨RX4, "isLetter", "(I)Z"⟩
abbrev cX4_addAct : ByteArray := prog_6_method_5_code
def yX4_addAct : MethodName := ⟨RX4, "addAct", "(III)V"⟩
def RX5 : String := "MorningBite$Shares"
def TX5 : u_T := fun k => match k with
  | 0 => ("MorningBite$Shares", "behind", "[I", true)
  | 1 => ("MorningBite$Shares", "count", "I", false)
  | _ => ("MorningBite$Shares", "first", "I", false)
def tyX5 : Nat → FieldType := fun k => match k with
  | 0 => .array .int
  | 1 => .int
  | _ => .int
abbrev wsX50 : List Cond := u_ws RX5 TX5 3
theorem nmX5 : ∀ a, a < 3 → ∀ b, b < 3 → a ≠ b → (TX5 a).2.1 ≠ (TX5 b).2.1 := by decide +kernel
theorem tyX5_ok : ∀ k, k < 3 → parseFieldDescriptor (TX5 k).2.2.1 = some (tyX5 k) := by decide +kernel
abbrev cX5_init : ByteArray := prog_7_method_1_code
def yX5_init : MethodName := ⟨RX5, "<init>", "()V"⟩
abbrev cX5_weigh : ByteArray := prog_7_method_2_code
def yX5_weigh : MethodName := ⟨RX5, "weigh", "(LMorningBite$Hill;I)V"⟩
abbrev cX5_share : ByteArray := prog_7_method_3_code
def yX5_share : MethodName := ⟨RX5, "share", "(LMorningBite$Hill;III)V"⟩
abbrev cX5_addShare : ByteArray := prog_7_method_4_code
def yX5_addShare : MethodName := ⟨RX5, "addShare", "(II)V"⟩
abbrev cX5_envies : ByteArray := prog_7_method_5_code
def yX5_envies : MethodName := ⟨RX5, "envies", "(LMorningBite$Hill;I)Z"⟩
abbrev cX5_wronged : ByteArray := prog_7_method_6_code
def yX5_wronged : MethodName := ⟨RX5, "wronged", "(LMorningBite$Hill;II)Z"⟩
def RX6 : String := "MorningBite$Sights"
def TX6 : u_T := fun k => match k with
  | 0 => ("MorningBite$Sights", "ones", "[I", true)
  | 1 => ("MorningBite$Sights", "looked", "[I", true)
  | _ => ("MorningBite$Sights", "count", "I", false)
def tyX6 : Nat → FieldType := fun k => match k with
  | 0 => .array .int
  | 1 => .array .int
  | _ => .int
abbrev wsX60 : List Cond := u_ws RX6 TX6 3
theorem nmX6 : ∀ a, a < 3 → ∀ b, b < 3 → a ≠ b → (TX6 a).2.1 ≠ (TX6 b).2.1 := by decide +kernel
theorem tyX6_ok : ∀ k, k < 3 → parseFieldDescriptor (TX6 k).2.2.1 = some (tyX6 k) := by decide +kernel
abbrev cX6_init : ByteArray := prog_8_method_1_code
def yX6_init : MethodName := ⟨RX6, "<init>", "()V"⟩
abbrev cX6_add : ByteArray := prog_8_method_2_code
def yX6_add : MethodName := ⟨RX6, "add", "(II)Z"⟩
abbrev cX6_takeOver : ByteArray := prog_8_method_3_code
def yX6_takeOver : MethodName := ⟨RX6, "takeOver", "(LMorningBite$Sights;)V"⟩
abbrev cX6_givers : ByteArray := prog_8_method_4_code
def yX6_givers : MethodName := ⟨RX6, "givers", "(LMorningBite$Hill;)I"⟩
abbrev cX6_fits : ByteArray := prog_8_method_5_code
def yX6_fits : MethodName := ⟨RX6, "fits", "(LMorningBite$Hill;I)Z"⟩
abbrev cX6_leftAtMost : ByteArray := prog_8_method_6_code
def yX6_leftAtMost : MethodName := ⟨RX6, "leftAtMost", "(LMorningBite$Hill;II)I"⟩
abbrev cX6_looksBehind : ByteArray := prog_8_method_7_code
def yX6_looksBehind : MethodName := ⟨RX6, "looksBehind", "(LMorningBite$Hill;II)I"⟩
def RX7 : String := "MorningBite$Wormy"
def TX7 : u_T := fun k => match k with
  | _ => ("", "", "", false)
def tyX7 : Nat → FieldType := fun k => match k with
  | _ => .int
abbrev wsX70 : List Cond := u_ws RX7 TX7 0
theorem nmX7 : ∀ a, a < 0 → ∀ b, b < 0 → a ≠ b → (TX7 a).2.1 ≠ (TX7 b).2.1 := by decide +kernel
theorem tyX7_ok : ∀ k, k < 0 → parseFieldDescriptor (TX7 k).2.2.1 = some (tyX7 k) := by decide +kernel
abbrev cX7_weigh : ByteArray := prog_9_method_2_code
def yX7_weigh : MethodName := ⟨RX7, "weigh", "(LMorningBite$Hill;IIII)J"⟩
abbrev cX7_looksBehind : ByteArray := prog_9_method_3_code
def yX7_looksBehind : MethodName := ⟨RX7, "looksBehind", "(LMorningBite$Hill;III)I"⟩
abbrev cX7_power : ByteArray := prog_9_method_4_code
def yX7_power : MethodName := ⟨RX7, "power", "(JI)J"⟩
abbrev cX7_commonDivisor : ByteArray := prog_9_method_5_code
def yX7_commonDivisor : MethodName := ⟨RX7, "commonDivisor", "(JJ)J"⟩
def RX8 : String := "MorningBite$Year"
def TX8 : u_T := fun k => match k with
  | 0 => ("MorningBite$Year", "end", "LMorningBite$Hill;", true)
  | _ => ("MorningBite$Year", "mornings", "I", false)
def tyX8 : Nat → FieldType := fun k => match k with
  | 0 => .object "MorningBite$Hill"
  | _ => .int
abbrev wsX80 : List Cond := u_ws RX8 TX8 2
theorem nmX8 : ∀ a, a < 2 → ∀ b, b < 2 → a ≠ b → (TX8 a).2.1 ≠ (TX8 b).2.1 := by decide +kernel
theorem tyX8_ok : ∀ k, k < 2 → parseFieldDescriptor (TX8 k).2.2.1 = some (tyX8 k) := by decide +kernel
abbrev cX8_init : ByteArray := prog_10_method_1_code
def yX8_init : MethodName := ⟨RX8, "<init>", "()V"⟩
abbrev cX8_live : ByteArray := prog_10_method_2_code
def yX8_live : MethodName := ⟨RX8, "live", "(LMorningBite$Hill;II)V"⟩
abbrev cX8_kindOf : ByteArray := prog_10_method_3_code
def yX8_kindOf : MethodName := ⟨RX8, "kindOf", "(I)I"⟩
def RX9 : String := "MorningBite"
def TX9 : u_T := fun k => match k with
  | 0 => ("MorningBite", "hill", "LMorningBite$Hill;", true)
  | 1 => ("MorningBite", "pad", "LMorningBite$Pad;", true)
  | 2 => ("MorningBite", "days", "LMorningBite$Days;", true)
  | 3 => ("MorningBite", "keeper", "LMorningBite$Keeper;", true)
  | 4 => ("MorningBite", "shares", "LMorningBite$Shares;", true)
  | 5 => ("MorningBite", "sights", "LMorningBite$Sights;", true)
  | 6 => ("MorningBite", "trialYear", "LMorningBite$Year;", true)
  | _ => ("MorningBite", "images", "[LMorningBite$Image;", true)
def tyX9 : Nat → FieldType := fun k => match k with
  | 0 => .object "MorningBite$Hill"
  | 1 => .object "MorningBite$Pad"
  | 2 => .object "MorningBite$Days"
  | 3 => .object "MorningBite$Keeper"
  | 4 => .object "MorningBite$Shares"
  | 5 => .object "MorningBite$Sights"
  | 6 => .object "MorningBite$Year"
  | _ => .array (.object "MorningBite$Image")
abbrev wsX90 : List Cond := u_ws RX9 TX9 8
theorem nmX9 : ∀ a, a < 8 → ∀ b, b < 8 → a ≠ b → (TX9 a).2.1 ≠ (TX9 b).2.1 := by decide +kernel
theorem tyX9_ok : ∀ k, k < 8 → parseFieldDescriptor (TX9 k).2.2.1 = some (tyX9 k) := by decide +kernel
abbrev cX9_init : ByteArray := prog_1_method_1_code
def yX9_init : MethodName := ⟨RX9, "<init>", "()V"⟩
abbrev cX9_one : ByteArray := prog_1_method_2_code
def yX9_one : MethodName := ⟨RX9, "one", "(IIII)I"⟩
abbrev cX9_leave : ByteArray := prog_1_method_3_code
def yX9_leave : MethodName := ⟨RX9, "leave", "(I)I"⟩
abbrev cX9_set : ByteArray := prog_1_method_4_code
def yX9_set : MethodName := ⟨RX9, "set", "(II)I"⟩
abbrev cX9_say : ByteArray := prog_1_method_5_code
def yX9_say : MethodName := ⟨RX9, "say", "(I)I"⟩
abbrev cX9_wipe : ByteArray := prog_1_method_6_code
def yX9_wipe : MethodName := ⟨RX9, "wipe", "()I"⟩
abbrev cX9_fault : ByteArray := prog_1_method_7_code
def yX9_fault : MethodName := ⟨RX9, "fault", "()I"⟩
abbrev cX9_judge : ByteArray := prog_1_method_8_code
def yX9_judge : MethodName := ⟨RX9, "judge", "(I)I"⟩
abbrev cX9_behind : ByteArray := prog_1_method_9_code
def yX9_behind : MethodName := ⟨RX9, "behind", "(II)I"⟩
abbrev cX9_basket : ByteArray := prog_1_method_10_code
def yX9_basket : MethodName := ⟨RX9, "basket", "()I"⟩
abbrev cX9_passed : ByteArray := prog_1_method_11_code
def yX9_passed : MethodName := ⟨RX9, "passed", "(I)I"⟩
abbrev cX9_oldest : ByteArray := prog_1_method_12_code
def yX9_oldest : MethodName := ⟨RX9, "oldest", "(I)I"⟩
abbrev cX9_done : ByteArray := prog_1_method_13_code
def yX9_done : MethodName := ⟨RX9, "done", "()I"⟩
abbrev cX9_lasts : ByteArray := prog_1_method_14_code
def yX9_lasts : MethodName := ⟨RX9, "lasts", "(II)I"⟩
abbrev cX9_keeps : ByteArray := prog_1_method_15_code
def yX9_keeps : MethodName := ⟨RX9, "keeps", "(IIII)I"⟩
abbrev cX9_plan : ByteArray := prog_1_method_16_code
def yX9_plan : MethodName := ⟨RX9, "plan", "(IIIIII)I"⟩
abbrev cX9_envy : ByteArray := prog_1_method_17_code
def yX9_envy : MethodName := ⟨RX9, "envy", "(II)I"⟩
abbrev cX9_refuses : ByteArray := prog_1_method_18_code
def yX9_refuses : MethodName := ⟨RX9, "refuses", "(I)I"⟩
abbrev cX9_seen : ByteArray := prog_1_method_19_code
def yX9_seen : MethodName := ⟨RX9, "seen", "(II)I"⟩
abbrev cX9_forget : ByteArray := prog_1_method_20_code
def yX9_forget : MethodName := ⟨RX9, "forget", "()I"⟩
abbrev cX9_gave : ByteArray := prog_1_method_21_code
def yX9_gave : MethodName := ⟨RX9, "gave", "(I)I"⟩
abbrev cX9_ask : ByteArray := prog_1_method_22_code
def yX9_ask : MethodName := ⟨RX9, "ask", "(I)I"⟩
abbrev cX9_thieves : ByteArray := prog_1_method_23_code
def yX9_thieves : MethodName := ⟨RX9, "thieves", "(III)I"⟩
abbrev cX9_worms : ByteArray := prog_1_method_24_code
def yX9_worms : MethodName := ⟨RX9, "worms", "(IIIII)J"⟩
abbrev cX9_year : ByteArray := prog_1_method_25_code
def yX9_year : MethodName := ⟨RX9, "year", "(III)I"⟩
abbrev cX9_image : ByteArray := prog_1_method_26_code
def yX9_image : MethodName := ⟨RX9, "image", "(I)I"⟩
abbrev cX9_restore : ByteArray := prog_1_method_27_code
def yX9_restore : MethodName := ⟨RX9, "restore", "(I)I"⟩
abbrev cX9_told : ByteArray := prog_1_method_28_code
def yX9_told : MethodName := ⟨RX9, "told", "(I)I"⟩
abbrev cX9_toldOf : ByteArray := prog_1_method_29_code
def yX9_toldOf : MethodName := ⟨RX9, "toldOf", "(II)I"⟩
abbrev cX9_liveDays : ByteArray := prog_1_method_30_code
def yX9_liveDays : MethodName := ⟨RX9, "liveDays", "()I"⟩
abbrev cX9_refuseKeeping : ByteArray := prog_1_method_31_code
def yX9_refuseKeeping : MethodName := ⟨RX9, "refuseKeeping", "(IIII)I"⟩
abbrev cX9_within : ByteArray := prog_1_method_32_code
def yX9_within : MethodName := ⟨RX9, "within", "(III)Z"⟩
def RX10 : String := "MorningBiteModel"
def TX10 : u_T := fun k => match k with
  | 0 => ("MorningBiteModel", "there", "I", false)
  | 1 => ("MorningBiteModel", "inBasket", "I", false)
  | 2 => ("MorningBiteModel", "grown", "I", false)
  | 3 => ("MorningBiteModel", "isHere", "I", false)
  | 4 => ("MorningBiteModel", "looks", "[I", true)
  | 5 => ("MorningBiteModel", "pace", "[I", true)
  | 6 => ("MorningBiteModel", "youth", "[I", true)
  | 7 => ("MorningBiteModel", "eaten", "[I", true)
  | 8 => ("MorningBiteModel", "sightOne", "[I", true)
  | 9 => ("MorningBiteModel", "sightLooks", "[I", true)
  | 10 => ("MorningBiteModel", "sights", "I", false)
  | 11 => ("MorningBiteModel", "pad", "[I", true)
  | 12 => ("MorningBiteModel", "padMany", "I", false)
  | 13 => ("MorningBiteModel", "act", "[I", true)
  | 14 => ("MorningBiteModel", "who", "[I", true)
  | 15 => ("MorningBiteModel", "whom", "[I", true)
  | 16 => ("MorningBiteModel", "acts", "I", false)
  | 17 => ("MorningBiteModel", "mornings", "I", false)
  | 18 => ("MorningBiteModel", "firstPassed", "I", false)
  | 19 => ("MorningBiteModel", "twoPassed", "I", false)
  | 20 => ("MorningBiteModel", "oldestBy", "[I", true)
  | 21 => ("MorningBiteModel", "ahead", "[I", true)
  | 22 => ("MorningBiteModel", "had", "[I", true)
  | 23 => ("MorningBiteModel", "badAct", "I", false)
  | 24 => ("MorningBiteModel", "badWhy", "I", false)
  | 25 => ("MorningBiteModel", "member", "[I", true)
  | 26 => ("MorningBiteModel", "age", "[I", true)
  | 27 => ("MorningBiteModel", "ageMany", "[I", true)
  | 28 => ("MorningBiteModel", "ageThen", "[I", true)
  | 29 => ("MorningBiteModel", "halvesFrom", "[I", true)
  | 30 => ("MorningBiteModel", "ledOn", "[I", true)
  | 31 => ("MorningBiteModel", "gets", "[I", true)
  | 32 => ("MorningBiteModel", "parts", "[J", true)
  | 33 => ("MorningBiteModel", "partsThen", "[J", true)
  | 34 => ("MorningBiteModel", "kept", "[I", true)
  | 35 => ("MorningBiteModel", "isKept", "[Z", true)
  | 36 => ("MorningBiteModel", "keptAt", "I", false)
  | _ => ("MorningBiteModel", "isWriting", "Z", false)
def tyX10 : Nat → FieldType := fun k => match k with
  | 0 => .int
  | 1 => .int
  | 2 => .int
  | 3 => .int
  | 4 => .array .int
  | 5 => .array .int
  | 6 => .array .int
  | 7 => .array .int
  | 8 => .array .int
  | 9 => .array .int
  | 10 => .int
  | 11 => .array .int
  | 12 => .int
  | 13 => .array .int
  | 14 => .array .int
  | 15 => .array .int
  | 16 => .int
  | 17 => .int
  | 18 => .int
  | 19 => .int
  | 20 => .array .int
  | 21 => .array .int
  | 22 => .array .int
  | 23 => .int
  | 24 => .int
  | 25 => .array .int
  | 26 => .array .int
  | 27 => .array .int
  | 28 => .array .int
  | 29 => .array .int
  | 30 => .array .int
  | 31 => .array .int
  | 32 => .array .long
  | 33 => .array .long
  | 34 => .array .int
  | 35 => .array .boolean
  | 36 => .int
  | _ => .boolean
abbrev wsX100 : List Cond := u_ws RX10 TX10 38
theorem nmX10 : ∀ a, a < 38 → ∀ b, b < 38 → a ≠ b → (TX10 a).2.1 ≠ (TX10 b).2.1 := by decide +kernel
theorem tyX10_ok : ∀ k, k < 38 → parseFieldDescriptor (TX10 k).2.2.1 = some (tyX10 k) := by decide +kernel
abbrev cX10_init : ByteArray := prog_12_method_1_code
def yX10_init : MethodName := ⟨RX10, "<init>", "()V"⟩
abbrev cX10_in : ByteArray := prog_12_method_3_code
def yX10_in : MethodName := ⟨RX10, "in", "(JJJ)Z"⟩
abbrev cX10_ones : ByteArray := prog_12_method_4_code
def yX10_ones : MethodName := ⟨RX10, "ones", "(I)I"⟩
abbrev cX10_isOne : ByteArray := prog_12_method_5_code
def yX10_isOne : MethodName := ⟨RX10, "isOne", "(I)Z"⟩
abbrev cX10_one : ByteArray := prog_12_method_6_code
def yX10_one : MethodName := ⟨RX10, "one", "(IIII)I"⟩
abbrev cX10_leave : ByteArray := prog_12_method_7_code
def yX10_leave : MethodName := ⟨RX10, "leave", "(I)I"⟩
abbrev cX10_set : ByteArray := prog_12_method_8_code
def yX10_set : MethodName := ⟨RX10, "set", "(II)I"⟩
abbrev cX10_say : ByteArray := prog_12_method_9_code
def yX10_say : MethodName := ⟨RX10, "say", "(I)I"⟩
abbrev cX10_wipe : ByteArray := prog_12_method_10_code
def yX10_wipe : MethodName := ⟨RX10, "wipe", "()I"⟩
abbrev cX10_isLetter : ByteArray := prog_12_method_11_code
def yX10_isLetter : MethodName := ⟨RX10, "isLetter", "(I)Z"⟩
abbrev cX10_close : ByteArray := prog_12_method_12_code
def yX10_close : MethodName := ⟨RX10, "close", "(II)I"⟩
abbrev cX10_readOn : ByteArray := prog_12_method_13_code
def yX10_readOn : MethodName := ⟨RX10, "readOn", "(II)I"⟩
abbrev cX10_fault : ByteArray := prog_12_method_14_code
def yX10_fault : MethodName := ⟨RX10, "fault", "()I"⟩
abbrev cX10_whyNotGive : ByteArray := prog_12_method_15_code
def yX10_whyNotGive : MethodName := ⟨RX10, "whyNotGive", "(II)I"⟩
abbrev cX10_whyNot : ByteArray := prog_12_method_16_code
def yX10_whyNot : MethodName := ⟨RX10, "whyNot", "(III)I"⟩
abbrev cX10_lookBehind : ByteArray := prog_12_method_17_code
def yX10_lookBehind : MethodName := ⟨RX10, "lookBehind", "(III)I"⟩
abbrev cX10_oldestNow : ByteArray := prog_12_method_18_code
def yX10_oldestNow : MethodName := ⟨RX10, "oldestNow", "()I"⟩
abbrev cX10_passing : ByteArray := prog_12_method_19_code
def yX10_passing : MethodName := ⟨RX10, "passing", "()I"⟩
abbrev cX10_passMorning : ByteArray := prog_12_method_20_code
def yX10_passMorning : MethodName := ⟨RX10, "passMorning", "()V"⟩
abbrev cX10_eat : ByteArray := prog_12_method_21_code
def yX10_eat : MethodName := ⟨RX10, "eat", "(II)V"⟩
abbrev cX10_happen : ByteArray := prog_12_method_22_code
def yX10_happen : MethodName := ⟨RX10, "happen", "(III)V"⟩
abbrev cX10_keepNow : ByteArray := prog_12_method_23_code
def yX10_keepNow : MethodName := ⟨RX10, "keepNow", "()V"⟩
abbrev cX10_back : ByteArray := prog_12_method_24_code
def yX10_back : MethodName := ⟨RX10, "back", "(I)I"⟩
abbrev cX10_beginCount : ByteArray := prog_12_method_25_code
def yX10_beginCount : MethodName := ⟨RX10, "beginCount", "()V"⟩
abbrev cX10_goDays : ByteArray := prog_12_method_26_code
def yX10_goDays : MethodName := ⟨RX10, "goDays", "()V"⟩
abbrev cX10_refusal : ByteArray := prog_12_method_27_code
def yX10_refusal : MethodName := ⟨RX10, "refusal", "()I"⟩
abbrev cX10_judge : ByteArray := prog_12_method_28_code
def yX10_judge : MethodName := ⟨RX10, "judge", "(I)I"⟩
abbrev cX10_behind : ByteArray := prog_12_method_29_code
def yX10_behind : MethodName := ⟨RX10, "behind", "(II)I"⟩
abbrev cX10_basket : ByteArray := prog_12_method_30_code
def yX10_basket : MethodName := ⟨RX10, "basket", "()I"⟩
abbrev cX10_passed : ByteArray := prog_12_method_31_code
def yX10_passed : MethodName := ⟨RX10, "passed", "(I)I"⟩
abbrev cX10_oldest : ByteArray := prog_12_method_32_code
def yX10_oldest : MethodName := ⟨RX10, "oldest", "(I)I"⟩
abbrev cX10_done : ByteArray := prog_12_method_33_code
def yX10_done : MethodName := ⟨RX10, "done", "()I"⟩
abbrev cX10_lasts : ByteArray := prog_12_method_34_code
def yX10_lasts : MethodName := ⟨RX10, "lasts", "(II)I"⟩
abbrev cX10_ageAt : ByteArray := prog_12_method_35_code
def yX10_ageAt : MethodName := ⟨RX10, "ageAt", "(II)I"⟩
abbrev cX10_layAges : ByteArray := prog_12_method_36_code
def yX10_layAges : MethodName := ⟨RX10, "layAges", "(III)V"⟩
abbrev cX10_layAgeThen : ByteArray := prog_12_method_37_code
def yX10_layAgeThen : MethodName := ⟨RX10, "layAgeThen", "(IIII)V"⟩
abbrev cX10_stateOf : ByteArray := prog_12_method_38_code
def yX10_stateOf : MethodName := ⟨RX10, "stateOf", "(III)I"⟩
abbrev cX10_thenOf : ByteArray := prog_12_method_39_code
def yX10_thenOf : MethodName := ⟨RX10, "thenOf", "(IIII)I"⟩
abbrev cX10_halvesOf : ByteArray := prog_12_method_40_code
def yX10_halvesOf : MethodName := ⟨RX10, "halvesOf", "(I)I"⟩
abbrev cX10_halvesBy : ByteArray := prog_12_method_41_code
def yX10_halvesBy : MethodName := ⟨RX10, "halvesBy", "(IIIIII)I"⟩
abbrev cX10_manyAt : ByteArray := prog_12_method_42_code
def yX10_manyAt : MethodName := ⟨RX10, "manyAt", "(II)I"⟩
abbrev cX10_layHalves : ByteArray := prog_12_method_43_code
def yX10_layHalves : MethodName := ⟨RX10, "layHalves", "(II)V"⟩
abbrev cX10_findPlan : ByteArray := prog_12_method_44_code
def yX10_findPlan : MethodName := ⟨RX10, "findPlan", "(IIII)V"⟩
abbrev cX10_planRefusal : ByteArray := prog_12_method_45_code
def yX10_planRefusal : MethodName := ⟨RX10, "planRefusal", "(IIII)I"⟩
abbrev cX10_keeps : ByteArray := prog_12_method_46_code
def yX10_keeps : MethodName := ⟨RX10, "keeps", "(IIII)I"⟩
abbrev cX10_firstHow : ByteArray := prog_12_method_47_code
def yX10_firstHow : MethodName := ⟨RX10, "firstHow", "(III)I"⟩
abbrev cX10_plan : ByteArray := prog_12_method_48_code
def yX10_plan : MethodName := ⟨RX10, "plan", "(IIIIII)I"⟩
abbrev cX10_isEnvyless : ByteArray := prog_12_method_49_code
def yX10_isEnvyless : MethodName := ⟨RX10, "isEnvyless", "()Z"⟩
abbrev cX10_shareOf : ByteArray := prog_12_method_50_code
def yX10_shareOf : MethodName := ⟨RX10, "shareOf", "(II)I"⟩
abbrev cX10_envy : ByteArray := prog_12_method_51_code
def yX10_envy : MethodName := ⟨RX10, "envy", "(II)I"⟩
abbrev cX10_refuses : ByteArray := prog_12_method_52_code
def yX10_refuses : MethodName := ⟨RX10, "refuses", "(I)I"⟩
abbrev cX10_seen : ByteArray := prog_12_method_53_code
def yX10_seen : MethodName := ⟨RX10, "seen", "(II)I"⟩
abbrev cX10_forget : ByteArray := prog_12_method_54_code
def yX10_forget : MethodName := ⟨RX10, "forget", "()I"⟩
abbrev cX10_lookedBy : ByteArray := prog_12_method_55_code
def yX10_lookedBy : MethodName := ⟨RX10, "lookedBy", "(II)I"⟩
abbrev cX10_fits : ByteArray := prog_12_method_56_code
def yX10_fits : MethodName := ⟨RX10, "fits", "(I)Z"⟩
abbrev cX10_givers : ByteArray := prog_12_method_57_code
def yX10_givers : MethodName := ⟨RX10, "givers", "()I"⟩
abbrev cX10_gave : ByteArray := prog_12_method_58_code
def yX10_gave : MethodName := ⟨RX10, "gave", "(I)I"⟩
abbrev cX10_mostAlike : ByteArray := prog_12_method_59_code
def yX10_mostAlike : MethodName := ⟨RX10, "mostAlike", "(II)I"⟩
abbrev cX10_ask : ByteArray := prog_12_method_60_code
def yX10_ask : MethodName := ⟨RX10, "ask", "(I)I"⟩
abbrev cX10_thieves : ByteArray := prog_12_method_61_code
def yX10_thieves : MethodName := ⟨RX10, "thieves", "(III)I"⟩
abbrev cX10_lowest : ByteArray := prog_12_method_62_code
def yX10_lowest : MethodName := ⟨RX10, "lowest", "(JJI)J"⟩
abbrev cX10_wormyDay : ByteArray := prog_12_method_63_code
def yX10_wormyDay : MethodName := ⟨RX10, "wormyDay", "(II)V"⟩
abbrev cX10_worms : ByteArray := prog_12_method_64_code
def yX10_worms : MethodName := ⟨RX10, "worms", "(IIIII)J"⟩
abbrev cX10_year : ByteArray := prog_12_method_65_code
def yX10_year : MethodName := ⟨RX10, "year", "(III)I"⟩
abbrev cX10_pass : ByteArray := prog_12_method_66_code
def yX10_pass : MethodName := ⟨RX10, "pass", "(I)I"⟩
abbrev cX10_passAll : ByteArray := prog_12_method_67_code
def yX10_passAll : MethodName := ⟨RX10, "passAll", "()V"⟩
abbrev cX10_image : ByteArray := prog_12_method_68_code
def yX10_image : MethodName := ⟨RX10, "image", "(I)I"⟩
abbrev cX10_restore : ByteArray := prog_12_method_69_code
def yX10_restore : MethodName := ⟨RX10, "restore", "(I)I"⟩
abbrev cX10_toldOf : ByteArray := prog_12_method_70_code
def yX10_toldOf : MethodName := ⟨RX10, "toldOf", "(II)I"⟩
abbrev cX10_told : ByteArray := prog_12_method_71_code
def yX10_told : MethodName := ⟨RX10, "told", "(I)I"⟩
def RJ6 : String := "java/lang/Integer"
abbrev cJ6_compare_7cf53 : ByteArray := prog_13_method_40_code
def yJ6_compare_7cf53 : MethodName := ⟨RJ6, "compare", "(II)I"⟩
abbrev cJ6_bitCount_0f7a4 : ByteArray := prog_13_method_49_code
def yJ6_bitCount_0f7a4 : MethodName := ⟨RJ6, "bitCount", "(I)I"⟩
def RJ9 : String := "java/lang/Math"
abbrev cJ9_max_7cf53 : ByteArray := prog_14_method_65_code
def yJ9_max_7cf53 : MethodName := ⟨RJ9, "max", "(II)I"⟩
abbrev cJ9_max_f86c9 : ByteArray := prog_14_method_66_code
def yJ9_max_f86c9 : MethodName := ⟨RJ9, "max", "(JJ)J"⟩
abbrev cJ9_min_7cf53 : ByteArray := prog_14_method_69_code
def yJ9_min_7cf53 : MethodName := ⟨RJ9, "min", "(II)I"⟩
def RJ10 : String := "java/lang/System"
def RL : String := "MorningBiteLaw"
abbrev cL_law : ByteArray := code
def yL_law : MethodName := ⟨RL, "law", "([I)Z"⟩
abbrev vwCl : List vw_C := [(RX0, TX0, 8), (RX1, TX1, 8), (RX2, TX2, 3), (RX3, TX3, 11), (RX4, TX4, 6), (RX5, TX5, 3), (RX6, TX6, 3), (RX8, TX8, 2), (RX9, TX9, 8), (RX10, TX10, 38)]
end
section
/-! A small machine over whole numbers, and its rows out of the kit's: the world's cells are numbered 0, 1, .. in the order in which they are made, from the address z on. -/
abbrev jV : Type := Int ⊕ (Int ⊕ Option (Option Nat))
abbrev jI (x : Int) : jV := .inl x
abbrev jL (x : Int) : jV := .inr (.inl x)
abbrev jR (h : Nat) : jV := .inr (.inr (some (some h)))
abbrev jS : jV := .inr (.inr (some none))
abbrev jN : jV := .inr (.inr none)
/-- the script: its address, its length, what it holds -/
abbrev jX : Type := Nat × Nat × (Nat → Int)
def jval (z : Nat) (X : jX) : jV → Value
  | .inl x => .int (Int32.ofInt x)
  | .inr (.inl x) => .long (Int64.ofInt x)
  | .inr (.inr (some (some h))) => .ref (z + h)
  | .inr (.inr (some none)) => .ref X.1
  | .inr (.inr none) => .null
/-- a cell's kind: 0 int[], 1 long[], 2 boolean[], 3 int[][], 4 Image[], 5 + c an object of class c; how many places; the references that it holds -/
abbrev jKd : Type := Nat × Nat × List (Option Nat)
abbrev jM : Type := List jKd × (Nat → Int → Int)
def jIn (x : Int) : Prop := -2147483648 ≤ x ∧ x ≤ 2147483647
def jInL (x : Int) : Prop := -9223372036854775808 ≤ x ∧ x ≤ 9223372036854775807
def jok : jV → Prop
  | .inl x => jIn x
  | .inr (.inl x) => jInL x
  | _ => True
def jokL : List jV → Prop
  | [] => True
  | v :: t => jok v ∧ jokL t
def jlen : List jKd → Nat → Nat := fun G k => (G.getD k (0, 0, [])).1
def jokM (μ : jM) : Prop := ∀ (k : Nat) (j : Int), (jlen μ.1 k = 1 → jInL (μ.2 k j)) ∧ (jlen μ.1 k ≠ 1 → jIn (μ.2 k j)) ∧ (μ.1.length ≤ k → μ.2 k j = 0)
def jfty (ci : Nat) : Nat → FieldType := match ci with
  | 0 => tyX0
  | 1 => tyX1
  | 2 => tyX2
  | 3 => tyX3
  | 4 => tyX4
  | 5 => tyX5
  | 6 => tyX6
  | 7 => tyX8
  | 8 => tyX9
  | _ => tyX10
def jisref : FieldType → Bool
  | .object _ => true
  | .array _ => true
  | _ => false
def jrf (z : Nat) (rs : List (Option Nat)) : Nat → Option Nat := fun j => (rs.getD j none).map (fun h => z + h)
def jfv (z ci : Nat) (rs : List (Option Nat)) (f : Int → Int) (j : Nat) : Value := if jisref (jfty ci j) = true then va_rf (jrf z rs j) else .int (Int32.ofInt (f j))
def jent (z : Nat) (aC : Nat → ClassId) (kd : jKd) (f : Int → Int) : va_E :=
  match kd with
  | (0, n, _) => .inl (aC 0, n, .inl (fun j => Int32.ofInt (f j)))
  | (1, n, _) => .inl (aC 1, n, .inr (.inl (fun j => Int64.ofInt (f j))))
  | (2, n, _) => .inl (aC 2, n, .inl (fun j => Int32.ofInt (f j)))
  | (3, n, rs) => .inl (aC 3, n, .inr (.inr (.inr (.inr (jrf z rs)))))
  | (4, n, rs) => .inl (aC 4, n, .inr (.inr (.inr (.inr (jrf z rs)))))
  | (ci + 5, n, rs) => .inr (ci, (List.range n).map (jfv z ci rs f))
def jws (z : Nat) (aC : Nat → ClassId) (μ : jM) : va_W := (List.range μ.1.length).map (fun k => (z + k, jent z aC (μ.1.getD k (0, 0, [])) (μ.2 k)))
theorem jws_get {z : Nat} {aC : Nat → ClassId} {G : List jKd} {M : Nat → Int → Int} {k : Nat} {kd : jKd} (h : G[k]? = some kd) : (jws z aC (G, M))[k]? = some (z + k, jent z aC kd (M k)) := by
  have hl := (List.getElem?_eq_some_iff.mp h).1
  unfold jws
  rw [List.getElem?_map, List.getElem?_range hl]
  simp [List.getD_eq_getElem?_getD, h]
theorem jws_at {z : Nat} {aC : Nat → ClassId} {μ : jM} {k : Nat} {q : Nat × va_E} (h : (jws z aC μ)[k]? = some q) : k < μ.1.length ∧ q = (z + k, jent z aC (μ.1.getD k (0, 0, [])) (μ.2 k)) := by
  have hl := (List.getElem?_eq_some_iff.mp h).1
  simp only [jws, List.length_map, List.length_range] at hl
  refine ⟨hl, ?_⟩
  simp only [jws, List.getElem?_map, List.getElem?_range hl, Option.map_some] at h
  exact (Option.some.inj h).symm
theorem jws_D {z : Nat} {aC : Nat → ClassId} {μ : jM} : va_D (fun q => z ≤ q) (jws z aC μ) := by
  refine ⟨fun i j p q hi hj e => ?_, fun k q hk => ?_⟩
  · rw [(jws_at hi).2, (jws_at hj).2] at e
    exact Nat.add_left_cancel e
  · rw [(jws_at hk).2]
    exact Nat.le_add_right _ _
theorem jws_set {z : Nat} {aC : Nat → ClassId} {G G' : List jKd} {M M' : Nat → Int → Int} {k : Nat} {E : va_E} (hl : G'.length = G.length) (h1 : E = jent z aC (G'.getD k (0, 0, [])) (M' k)) (h2 : ∀ j, j ≠ k → G'.getD j (0, 0, []) = G.getD j (0, 0, []) ∧ M' j = M j) :
    (jws z aC (G, M)).set k (z + k, E) = jws z aC (G', M') := by
  apply List.ext_getElem?
  intro j
  unfold jws
  rw [List.getElem?_set]
  simp only [List.length_map, List.length_range, List.getElem?_map, hl]
  by_cases hjk : k = j
  · subst hjk
    by_cases hk : k < G.length
    · simp [hk, h1]
    · simp [hk]
  · rw [if_neg hjk]
    by_cases hj : j < G.length
    · rw [List.getElem?_range hj]
      have e := (h2 j (fun e => hjk e.symm)).1
      rw [List.getD_eq_getElem?_getD, List.getD_eq_getElem?_getD] at e
      simp [e, (h2 j (fun e => hjk e.symm)).2]
    · simp [hj]
def jupd (M : Nat → Int → Int) (h : Nat) (i x : Int) : Nat → Int → Int := fun h' i' => if h' = h ∧ i' = i then x else M h' i'
theorem jupd_s (M : Nat → Int → Int) (h : Nat) (i x : Int) : jupd M h i x h i = x := by simp [jupd]
theorem jupd_h (M : Nat → Int → Int) {h h' : Nat} (i i' x : Int) (e : h' ≠ h) : jupd M h i x h' i' = M h' i' := by simp [jupd, e]
theorem jupd_i (M : Nat → Int → Int) (h h' : Nat) {i i' : Int} (x : Int) (e : i' ≠ i) : jupd M h i x h' i' = M h' i' := by simp [jupd, e]
theorem jupd_ne (M : Nat → Int → Int) {h h' : Nat} (i x : Int) (e : h' ≠ h) : jupd M h i x h' = M h' := funext fun _ => jupd_h M i _ x e
/-! ## the words -/
def jW : List Cond := lw_tbl.filter goodWord
def jisNw : Cond → Bool
  | .fieldLinkNest .. => true
  | .methodLinkNest .. => true
  | .arrayOver _ => true
  | _ => false
def jNW : List Cond := lw_tbl.filter jisNw
theorem jW_good : GoodIn jW jW := fun w hw => ⟨hw, good_of_word (by have := (List.mem_filter.mp hw).2; simpa using this)⟩
theorem jW_mem {w : Cond} (h : w ∈ lw_tbl) (hg : goodWord w = true) : w ∈ jW := List.mem_filter.mpr ⟨h, hg⟩
theorem jNW_mem {w : Cond} (h : w ∈ lw_tbl) (hg : jisNw w = true) : w ∈ jNW := List.mem_filter.mpr ⟨h, hg⟩
def jtys (aC : Nat → ClassId) : List (ClassId × FieldType) := [(aC 0, .int), (aC 1, .long), (aC 2, .boolean), (aC 3, .array .int), (aC 4, .object RX2)]
theorem jao {ty : FieldType} {s U : State} (hW : s.vm.Alike U.vm) (h : va_Nw (.arrayOver ty) s) : va_Nw (.arrayOver ty) U := by
  have h2 := (Cond.arrayOver_setVmC (args := #[]) (s := s) hW ty).trans h
  exact h2
/-- what stands of the tables in every frame -/
def jKn (D : va_G) (aC : Nat → ClassId) (s : State) : Prop := (∀ w ∈ jNW, va_Nw w s) ∧ va_K D vwCl (jtys aC) s
theorem jKn.warm {D : va_G} {aC : Nat → ClassId} {s U : State} (hW : s.WarmedH U.vm) (h : jKn D aC s) : jKn D aC U := by
  refine ⟨fun w hw => ?_, h.2.moved hW.alike⟩
  have h1 := h.1 w hw
  have h2 := (List.mem_filter.mp hw).2
  cases w <;> first | exact va_Nw.warmF hW h1 | exact va_Nw.warmM hW h1 | exact jao hW.alike h1 | (exfalso; revert h2; simp [jisNw])
theorem jKn.same {D : va_G} {aC : Nat → ClassId} {s U : State} (hv : s.vm = U.vm) (h : jKn D aC s) : jKn D aC U := by
  refine ⟨fun w hw => ?_, h.2.moved (by rw [hv]; exact Vm.Alike.refl U.vm)⟩
  have h1 := h.1 w hw
  have h2 := (List.mem_filter.mp hw).2
  cases w <;> first | exact va_Nw.same rfl hv h1 | exact jao (by rw [hv]; exact Vm.Alike.refl U.vm) h1 | (exfalso; revert h2; simp [jisNw])
/-! ## a method: name, code, locals, what it answers; whether it is the law, which has the script -/
abbrev jMt : Type := MethodName × ByteArray × Nat × Option FieldType × Bool
def jlv (z : Nat) (X : jX) : Nat → List jV → List (Nat × Value)
  | _, [] => []
  | i, .inr (.inr none) :: t => jlv z X (i + 1) t
  | i, v :: t => (i, jval z X v) :: jlv z X (i + 1) t
def jCtx (z : Nat) (X : jX) (d : Nat) (mm : jMt) (D : va_G) (aC : Nat → ClassId) (p : Program) (R : Room) (s : State) (m : MethodId) (args : Array Value) (meth : Method) (c : Code) : Prop :=
  p.tables.exec = Jvm.exec ∧ c.code = mm.2.1 ∧ c.maxLocals = mm.2.2.1 ∧ meth.sig.returnType = mm.2.2.2.1 ∧ meth.locks = false ∧ s.vm.findClass mm.1.cls = some m.cls ∧ meth.name = mm.1.name ∧ (∀ w ∈ jW, w.before args s = true) ∧ jKn D aC s ∧ d ≤ R.frames ∧ 64 * d ≤ R.locals ∧ z ≤ s.heap.size ∧ (mm.2.2.2.2 = true → va_X X.1 X.2.1 (fun j => Int32.ofInt (X.2.2 j)) s s.heap ∧ X.1 < z ∧ X.2.1 < 2147483648)
def jHp (z : Nat) (D : va_G) (aC : Nat → ClassId) (R : Room) (a : Nat × Nat) (s : State) (μ : jM) (H : Heap) (locs : List Loc) (cells slots : Nat) : Prop :=
  H.size = z + μ.1.length ∧ va_P D vwCl (jws z aC μ) H ∧ va_S (fun q => z ≤ q) s.heap H locs ∧ cells + a.1 ≤ R.cells ∧ slots + a.2 ≤ R.slots ∧ jokM μ
def jAt (z : Nat) (X : jX) (mm : jMt) (D : va_G) (aC : Nat → ClassId) (R : Room) (a : Nat × Nat) (s : State) (L S : List jV) (μ : jM) (H : Heap) (locs : List Loc) (cells slots : Nat) (ls : Array Slot) : Prop :=
  jHp z D aC R a s μ H locs cells slots ∧ lv_has ls mm.2.2.1 (jlv z X 0 L) ∧ L.length = mm.2.2.1 ∧ jokL L ∧ jokL S
def jRet (mm : jMt) (pc : Nat) : Option jV → Prop
  | none => mm.2.2.2.1 = none ∧ decode mm.2.1 pc = .ok (.return_, 1)
  | some (.inl x) => (mm.2.2.2.1 = some .int ∨ (mm.2.2.2.1 = some .boolean ∧ (x = 0 ∨ x = 1))) ∧ decode mm.2.1 pc = .ok (.ireturn, 1)
  | some (.inr (.inl _)) => mm.2.2.2.1 = some .long ∧ decode mm.2.1 pc = .ok (.lreturn, 1)
  | _ => False
def jEnd (z : Nat) (X : jX) (mm : jMt) (D : va_G) (aC : Nat → ClassId) (l : Launch) (p : Program) (e : Env) (R : Room) (s : State) (m : MethodId) (args : Array Value) (below : List Frame) (meth : Method) (c : Code) (Q : Option jV → jM → Prop) (Φ : State → Prop) : Prop :=
  ∀ (r : Option jV) (μ : jM), Q r μ → ∀ (a : Nat × Nat) (L : List jV) (H : Heap) (locs : List Loc) (cells slots : Nat) (ls : Array Slot) (pc : Nat), jAt z X mm D aC R a s L r.toList μ H locs cells slots ls → jRet mm pc r →
    W p l e R s m args below meth c H locs cells slots Φ (F0 m pc ls (r.toList.map (jval z X)))
/-- from here, with these locals, this stack, these cells, the method comes to its end, and Q holds of its answer and the cells -/
def J (l : Launch) (z : Nat) (X : jX) (d : Nat) (mm : jMt) (a : Nat × Nat) (pc : Nat) (L S : List jV) (μ : jM) (Q : Option jV → jM → Prop) : Prop :=
  ∀ (D : va_G) (aC : Nat → ClassId) (p : Program) (e : Env) (R : Room) (s : State) (m : MethodId) (args : Array Value) (below : List Frame) (meth : Method) (c : Code) (Φ : State → Prop),
    jCtx z X d mm D aC p R s m args meth c → jEnd z X mm D aC l p e R s m args below meth c Q Φ → ∀ (H : Heap) (locs : List Loc) (cells slots : Nat) (ls : Array Slot), jAt z X mm D aC R a s L S μ H locs cells slots ls →
      W p l e R s m args below meth c H locs cells slots Φ (F0 m pc ls (S.map (jval z X)))
/-! ## numbers -/
theorem j32 {x : Int} (h : jIn x) : (Int32.ofInt x).toInt = x := by
  have h1 := h.1; have h2 := h.2
  exact Int32.toInt_ofInt_of_le (by omega) (by omega)
theorem j64 {x : Int} (h : jInL x) : (Int64.ofInt x).toInt = x := by
  have h1 := h.1; have h2 := h.2
  exact Int64.toInt_ofInt_of_le (by omega) (by omega)
theorem j32_lt {x y : Int} (hx : jIn x) (hy : jIn y) : Int32.ofInt x < Int32.ofInt y ↔ x < y := by rw [Int32.lt_iff_toInt_lt, j32 hx, j32 hy]
theorem j32_le {x y : Int} (hx : jIn x) (hy : jIn y) : Int32.ofInt x ≤ Int32.ofInt y ↔ x ≤ y := by rw [Int32.le_iff_toInt_le, j32 hx, j32 hy]
theorem j32_eq {x y : Int} (hx : jIn x) (hy : jIn y) : Int32.ofInt x = Int32.ofInt y ↔ x = y := by rw [← Int32.toInt_inj, j32 hx, j32 hy]
theorem j32_0 : (0 : Int32) = Int32.ofInt 0 := by decide +kernel
theorem jIn0 : jIn 0 := by unfold jIn; omega
theorem j32_add {x y : Int} (hx : jIn x) (hy : jIn y) (h : jIn (x + y)) : Int32.ofInt x + Int32.ofInt y = Int32.ofInt (x + y) := by
  apply Int32.toInt_inj.mp
  have h1 := h.1; have h2 := h.2
  rw [Int32.toInt_add, j32 hx, j32 hy, j32 h, Int.bmod_eq_of_le (by omega) (by omega)]
theorem j32_sub {x y : Int} (hx : jIn x) (hy : jIn y) (h : jIn (x - y)) : Int32.ofInt x - Int32.ofInt y = Int32.ofInt (x - y) := by
  apply Int32.toInt_inj.mp
  have h1 := h.1; have h2 := h.2
  rw [Int32.toInt_sub, j32 hx, j32 hy, j32 h, Int.bmod_eq_of_le (by omega) (by omega)]
theorem j32_mul {x y : Int} (hx : jIn x) (hy : jIn y) (h : jIn (x * y)) : Int32.ofInt x * Int32.ofInt y = Int32.ofInt (x * y) := by
  apply Int32.toInt_inj.mp
  have h1 := h.1; have h2 := h.2
  rw [Int32.toInt_mul, j32 hx, j32 hy, j32 h, Int.bmod_eq_of_le (by omega) (by omega)]
theorem j64_add {x y : Int} (hx : jInL x) (hy : jInL y) (h : jInL (x + y)) : Int64.ofInt x + Int64.ofInt y = Int64.ofInt (x + y) := by
  apply Int64.toInt_inj.mp
  have h1 := h.1; have h2 := h.2
  rw [Int64.toInt_add, j64 hx, j64 hy, j64 h, Int.bmod_eq_of_le (by omega) (by omega)]
theorem j64_sub {x y : Int} (hx : jInL x) (hy : jInL y) (h : jInL (x - y)) : Int64.ofInt x - Int64.ofInt y = Int64.ofInt (x - y) := by
  apply Int64.toInt_inj.mp
  have h1 := h.1; have h2 := h.2
  rw [Int64.toInt_sub, j64 hx, j64 hy, j64 h, Int.bmod_eq_of_le (by omega) (by omega)]
theorem j64_mul {x y : Int} (hx : jInL x) (hy : jInL y) (h : jInL (x * y)) : Int64.ofInt x * Int64.ofInt y = Int64.ofInt (x * y) := by
  apply Int64.toInt_inj.mp
  have h1 := h.1; have h2 := h.2
  rw [Int64.toInt_mul, j64 hx, j64 hy, j64 h, Int.bmod_eq_of_le (by omega) (by omega)]
theorem jdiv_le {x y : Int} (h0 : 0 ≤ x) (hy : 0 < y) : 0 ≤ x / y ∧ x / y ≤ x := ⟨Int.ediv_nonneg h0 (by omega), Int.ediv_le_self y h0⟩
theorem jmod_le {x y : Int} (h0 : 0 ≤ x) (hy : 0 < y) : 0 ≤ x % y ∧ x % y ≤ x ∧ x % y < y := by
  refine ⟨Int.emod_nonneg x (by omega), ?_, Int.emod_lt_of_pos x hy⟩
  have h1 := Int.mul_ediv_add_emod x y
  have h2 := Int.mul_nonneg (a := y) (b := x / y) (by omega) (jdiv_le h0 hy).1
  omega
theorem j32_div {x y : Int} (hx : jIn x) (hy : jIn y) (h0 : 0 ≤ x) (h : 0 < y) : Int32.ofInt x / Int32.ofInt y = Int32.ofInt (x / y) ∧ jIn (x / y) := by
  have h1 := hx.2
  have h2 := jdiv_le h0 h
  have h3 : jIn (x / y) := ⟨by omega, by omega⟩
  refine ⟨?_, h3⟩
  apply Int32.toInt_inj.mp
  rw [Int32.toInt_div, j32 hx, j32 hy, j32 h3, Int.tdiv_eq_ediv_of_nonneg h0, Int.bmod_eq_of_le (by omega) (by omega)]
theorem j32_mod {x y : Int} (hx : jIn x) (hy : jIn y) (h0 : 0 ≤ x) (h : 0 < y) : Int32.ofInt x - Int32.ofInt x / Int32.ofInt y * Int32.ofInt y = Int32.ofInt (x % y) ∧ jIn (x % y) := by
  have h1 := hx.2
  have h2 := jmod_le h0 h
  have h3 : jIn (x % y) := ⟨by omega, by omega⟩
  refine ⟨?_, h3⟩
  apply Int32.toInt_inj.mp
  rw [irem_eq_mod, Int32.toInt_mod, j32 hx, j32 hy, j32 h3, Int.tmod_eq_emod_of_nonneg h0]
theorem j64_div {x y : Int} (hx : jInL x) (hy : jInL y) (h0 : 0 ≤ x) (h : 0 < y) : Int64.ofInt x / Int64.ofInt y = Int64.ofInt (x / y) ∧ jInL (x / y) := by
  have h1 := hx.2
  have h2 := jdiv_le h0 h
  have h3 : jInL (x / y) := ⟨by omega, by omega⟩
  refine ⟨?_, h3⟩
  apply Int64.toInt_inj.mp
  rw [Int64.toInt_div, j64 hx, j64 hy, j64 h3, Int.tdiv_eq_ediv_of_nonneg h0, Int.bmod_eq_of_le (by omega) (by omega)]
theorem j64_mod {x y : Int} (hx : jInL x) (hy : jInL y) (h0 : 0 ≤ x) (h : 0 < y) : Int64.ofInt x - Int64.ofInt x / Int64.ofInt y * Int64.ofInt y = Int64.ofInt (x % y) ∧ jInL (x % y) := by
  have h1 := hx.2
  have h2 := jmod_le h0 h
  have h3 : jInL (x % y) := ⟨by omega, by omega⟩
  refine ⟨?_, h3⟩
  have e : ∀ a b : Int64, (a - a / b * b).toInt = a.toInt.tmod b.toInt := fun a b => by
    have h5 : a - a / b * b = a % b := by
      apply Int64.toInt_inj.mp
      have h6 := Int64.le_toInt (a % b)
      have h7 := Int64.toInt_lt (a % b)
      rw [Int64.toInt_sub, Int64.toInt_mul, Int64.toInt_div, Int.bmod_mul_bmod, Int.sub_bmod_bmod, Int.mul_comm (a.toInt.tdiv b.toInt), ← Int.tmod_def, ← Int64.toInt_mod]
      exact Int.bmod_eq_of_le_mul_two (by omega) (by omega)
    rw [h5, Int64.toInt_mod]
  apply Int64.toInt_inj.mp
  rw [e, j64 hx, j64 hy, j64 h3, Int.tmod_eq_emod_of_nonneg h0]
theorem j32_64 {x : Int} (h : jIn x) : (Int32.ofInt x).toInt64 = Int64.ofInt x := by
  have h1 := h.1; have h2 := h.2
  exact Int32.toInt64_ofInt (Int.le_trans (by decide +kernel) h1) (Int.le_trans h2 (by decide +kernel))
theorem j32_ix {i : Int} {n : Nat} (h0 : 0 ≤ i) (h : jIn i) : (Int32.ofInt i).toNatClampNeg = i.toNat := by
  rw [Int32.toNatClampNeg, j32 h]
theorem j32_in {i : Int} {n : Nat} (h0 : 0 ≤ i) (h1 : i < n) (h : jIn i) : vp_in (Int32.ofInt i) n := vp_in_iff.mpr (by rw [j32 h]; exact ⟨h0, h1⟩)
/-! ## locals -/
def jlong : jV → Bool
  | .inr (.inl _) => true
  | _ => false
def jset1 : List jV → Nat → jV → List jV
  | [], _, _ => []
  | _ :: t, 0, v => v :: t
  | w :: t, i + 1, v => (bif (i == 0) && jlong w then jN else w) :: jset1 t i v
def jset2 : List jV → Nat → jV → List jV
  | [], _, _ => []
  | w :: t, 0, v => v :: jset1 t 0 jN
  | w :: t, i + 1, v => (bif (i == 0) && jlong w then jN else w) :: jset2 t i v
theorem jlv_cons {z : Nat} {X : jX} {off : Nat} {w : jV} {t : List jV} {q : Nat × Value} : q ∈ jlv z X off (w :: t) ↔ (w ≠ jN ∧ q = (off, jval z X w)) ∨ q ∈ jlv z X (off + 1) t := by
  rcases w with x | x | (_ | x)
  · simp [jlv]
  · simp [jlv]
  · simp [jlv]
  · simp [jlv]
theorem jlv_ge {z : Nat} {X : jX} {q : Nat × Value} : ∀ (L : List jV) (off : Nat), q ∈ jlv z X off L → off ≤ q.1
  | [], off, h => by simp [jlv] at h
  | w :: t, off, h => by
    rcases jlv_cons.mp h with ⟨-, h⟩ | h
    · rw [h]; exact Nat.le_refl _
    · have := jlv_ge t (off + 1) h
      omega
theorem jlv_mem {z : Nat} {X : jX} {v : jV} (hv : v ≠ jN) : ∀ (L : List jV) (off i : Nat), L[i]? = some v → (off + i, jval z X v) ∈ jlv z X off L
  | [], off, i, h => by simp at h
  | w :: t, off, 0, h => by
    have e : w = v := by simpa using h
    subst e
    exact jlv_cons.mpr (Or.inl ⟨hv, rfl⟩)
  | w :: t, off, i + 1, h => by
    have h1 := jlv_mem (z := z) (X := X) hv t (off + 1) i (by simpa using h)
    rw [Nat.add_right_comm, Nat.add_assoc] at h1
    exact jlv_cons.mpr (Or.inr h1)
theorem jlv_at {z : Nat} {X : jX} {ls : Array Slot} {n : Nat} {L : List jV} {i : Nat} {v : jV} (h : lv_has ls n (jlv z X 0 L)) (hi : L[i]? = some v) (hv : v ≠ jN) : ls[i]? = some (.val (jval z X v)) := by
  have h1 := jlv_mem (z := z) (X := X) hv L 0 i hi
  rw [Nat.zero_add] at h1
  exact h.2.2 _ h1
theorem jcat2 {z : Nat} {X : jX} {w : jV} (h : (jval z X w).category = 2) : jlong w = true := by
  rcases w with x | x | (_ | _ | x)
  · simp [jval, Value.category] at h
  · rfl
  · simp [jval, Value.category] at h
  · simp [jval, Value.category] at h
  · simp [jval, Value.category] at h
theorem jkill {z : Nat} {X : jX} {off i : Nat} {w : jV} {q : Nat × Value} (h : (bif (i == 0) && jlong w then jN else w) ≠ jN) (hq : q = (off, jval z X (bif (i == 0) && jlong w then jN else w))) : (w ≠ jN ∧ q = (off, jval z X w)) ∧ ¬ (q.1 + 1 = off + (i + 1) ∧ q.2.category = 2) := by
  cases hb : (i == 0) && jlong w with
  | true => rw [hb] at h; exact absurd rfl h
  | false =>
    rw [hb] at h hq
    refine ⟨⟨h, hq⟩, fun g => ?_⟩
    rw [hq] at g
    have g1 : off + 1 = off + (i + 1) := g.1
    have g2 := jcat2 g.2
    rw [show i = 0 by omega, show jlong w = true from g2] at hb
    exact absurd hb (by decide)
theorem jset1_mem {z : Nat} {X : jX} {v : jV} {q : Nat × Value} : ∀ (L : List jV) (off i : Nat), q ∈ jlv z X off (jset1 L i v) → q = (off + i, jval z X v) ∨ (q ∈ jlv z X off L ∧ q.1 ≠ off + i ∧ ¬ (q.1 + 1 = off + i ∧ q.2.category = 2))
  | [], off, i, h => by simp [jset1, jlv] at h
  | w :: t, off, 0, h => by
    rcases jlv_cons.mp (show q ∈ jlv z X off (v :: t) from h) with ⟨-, h⟩ | h
    · exact Or.inl h
    · have := jlv_ge t (off + 1) h
      exact Or.inr ⟨jlv_cons.mpr (Or.inr h), by omega, by omega⟩
  | w :: t, off, i + 1, h => by
    rcases jlv_cons.mp (show q ∈ jlv z X off ((bif (i == 0) && jlong w then jN else w) :: jset1 t i v) from h) with ⟨h1, h2⟩ | h
    · obtain ⟨g1, g2⟩ := jkill h1 h2
      refine Or.inr ⟨jlv_cons.mpr (Or.inl g1), ?_, g2⟩
      rw [h2]
      show off ≠ off + (i + 1)
      omega
    · rcases jset1_mem t (off + 1) i h with h | ⟨h1, h2, h3⟩
      · exact Or.inl (by rw [h]; congr 1; omega)
      · exact Or.inr ⟨jlv_cons.mpr (Or.inr h1), by omega, fun g => h3 ⟨by omega, g.2⟩⟩
theorem jset2_mem {z : Nat} {X : jX} {v : jV} {q : Nat × Value} : ∀ (L : List jV) (off i : Nat), q ∈ jlv z X off (jset2 L i v) → q = (off + i, jval z X v) ∨ (q ∈ jlv z X off L ∧ q.1 ≠ off + i ∧ q.1 ≠ off + i + 1 ∧ ¬ (q.1 + 1 = off + i ∧ q.2.category = 2))
  | [], off, i, h => by simp [jset2, jlv] at h
  | w :: t, off, 0, h => by
    rcases jlv_cons.mp (show q ∈ jlv z X off (v :: jset1 t 0 jN) from h) with ⟨-, h⟩ | h
    · exact Or.inl h
    · have := jlv_ge _ (off + 1) h
      cases t with
      | nil => simp [jset1, jlv] at h
      | cons u t =>
        rcases jlv_cons.mp (show q ∈ jlv z X (off + 1) (jN :: t) from h) with ⟨h, -⟩ | h
        · exact absurd rfl h
        · have := jlv_ge t (off + 1 + 1) h
          exact Or.inr ⟨jlv_cons.mpr (Or.inr (jlv_cons.mpr (Or.inr h))), by omega, by omega, by omega⟩
  | w :: t, off, i + 1, h => by
    rcases jlv_cons.mp (show q ∈ jlv z X off ((bif (i == 0) && jlong w then jN else w) :: jset2 t i v) from h) with ⟨h1, h2⟩ | h
    · obtain ⟨g1, g2⟩ := jkill h1 h2
      refine Or.inr ⟨jlv_cons.mpr (Or.inl g1), ?_, ?_, g2⟩
      · rw [h2]
        show off ≠ off + (i + 1)
        omega
      · rw [h2]
        show off ≠ off + (i + 1) + 1
        omega
    · rcases jset2_mem t (off + 1) i h with h | ⟨h1, h2, h4, h3⟩
      · exact Or.inl (by rw [h]; congr 1; omega)
      · exact Or.inr ⟨jlv_cons.mpr (Or.inr h1), by omega, by omega, fun g => h3 ⟨by omega, g.2⟩⟩
theorem jst1 {z : Nat} {X : jX} {ls : Array Slot} {n : Nat} {L : List jV} {i : Nat} {v : jV} (h : lv_has ls n ((i, jval z X v) :: (jlv z X 0 L).filter (fun q => !(q.1 == i) && !(q.1 + 1 == i && q.2.category == 2)))) : lv_has ls n (jlv z X 0 (jset1 L i v)) := by
  refine ⟨h.1, h.2.1, fun q hq => h.2.2 q ?_⟩
  rcases jset1_mem L 0 i hq with e | ⟨h1, h2, h3⟩
  · rw [e, Nat.zero_add]; exact List.mem_cons_self
  · refine List.mem_cons_of_mem _ (List.mem_filter.mpr ⟨h1, ?_⟩)
    rw [Nat.zero_add] at h2 h3
    by_cases hc : q.2.category = 2
    · have : ¬ q.1 + 1 = i := fun e => h3 ⟨e, hc⟩
      simp [h2, this]
    · simp [h2, hc]
theorem jst2 {z : Nat} {X : jX} {ls : Array Slot} {n : Nat} {L : List jV} {i : Nat} {v : jV} (h : lv_has ls n ((i, jval z X v) :: (jlv z X 0 L).filter (fun q => !(q.1 == i) && (!(q.1 == i + 1) && !(q.1 + 1 == i && q.2.category == 2))))) : lv_has ls n (jlv z X 0 (jset2 L i v)) := by
  refine ⟨h.1, h.2.1, fun q hq => h.2.2 q ?_⟩
  rcases jset2_mem L 0 i hq with e | ⟨h1, h2, h4, h3⟩
  · rw [e, Nat.zero_add]; exact List.mem_cons_self
  · refine List.mem_cons_of_mem _ (List.mem_filter.mpr ⟨h1, ?_⟩)
    rw [Nat.zero_add] at h2 h3 h4
    by_cases hc : q.2.category = 2
    · have : ¬ q.1 + 1 = i := fun e => h3 ⟨e, hc⟩
      simp [h2, h4, this]
    · simp [h2, h4, hc]
theorem jset1_len {v : jV} : ∀ (L : List jV) (i : Nat), (jset1 L i v).length = L.length
  | [], i => rfl
  | w :: t, 0 => rfl
  | w :: t, i + 1 => congrArg (· + 1) (jset1_len t i)
theorem jset2_len {v : jV} : ∀ (L : List jV) (i : Nat), (jset2 L i v).length = L.length
  | [], i => rfl
  | w :: t, 0 => congrArg (· + 1) (jset1_len t 0)
  | w :: t, i + 1 => congrArg (· + 1) (jset2_len t i)
theorem jok_kill {b : Bool} {w : jV} (h : jok w) : jok (bif b then jN else w) := by cases b <;> first | exact h | trivial
theorem jset1_ok {v : jV} (hv : jok v) : ∀ (L : List jV) (i : Nat), jokL L → jokL (jset1 L i v)
  | [], i, h => h
  | w :: t, 0, h => ⟨hv, h.2⟩
  | w :: t, i + 1, h => ⟨jok_kill h.1, jset1_ok hv t i h.2⟩
theorem jset2_ok {v : jV} (hv : jok v) : ∀ (L : List jV) (i : Nat), jokL L → jokL (jset2 L i v)
  | [], i, h => h
  | w :: t, 0, h => ⟨hv, jset1_ok (v := jN) trivial t 0 h.2⟩
  | w :: t, i + 1, h => ⟨jok_kill h.1, jset2_ok hv t i h.2⟩
theorem jokL_at : ∀ {L : List jV} {i : Nat} {v : jV}, jokL L → L[i]? = some v → jok v
  | [], i, v, h, e => by simp at e
  | w :: t, 0, v, h, e => by
    have e1 : w = v := by simpa using e
    subst e1
    exact h.1
  | w :: t, i + 1, v, h, e => jokL_at h.2 (by simpa using e)
theorem jokM_int {μ : jM} (h : jokM μ) {k : Nat} {kd : jKd} (hk : μ.1[k]? = some kd) (h1 : kd.1 ≠ 1) (j : Int) : jIn (μ.2 k j) := (h k j).2.1 (by unfold jlen; rw [List.getD_eq_getElem?_getD, hk]; exact h1)
theorem jokM_long {μ : jM} (h : jokM μ) {k : Nat} {kd : jKd} (hk : μ.1[k]? = some kd) (h1 : kd.1 = 1) (j : Int) : jInL (μ.2 k j) := (h k j).1 (by unfold jlen; rw [List.getD_eq_getElem?_getD, hk]; exact h1)
theorem jokM_upd {G : List jKd} {M : Nat → Int → Int} (h : jokM (G, M)) {k : Nat} {kd : jKd} (hk : G[k]? = some kd) {i x : Int} (hx : (kd.1 = 1 → jInL x) ∧ (kd.1 ≠ 1 → jIn x)) : jokM (G, jupd M k i x) := by
  intro k' j
  have hl := (List.getElem?_eq_some_iff.mp hk).1
  obtain ⟨h1, h2, h3⟩ := h k' j
  dsimp only at h1 h2 h3 ⊢
  unfold jupd
  by_cases e : k' = k ∧ j = i
  · rw [if_pos e]
    obtain ⟨e1, e2⟩ := e
    subst e1
    have e3 : jlen G k' = kd.1 := by unfold jlen; rw [List.getD_eq_getElem?_getD, hk]; rfl
    rw [e3]
    exact ⟨hx.1, hx.2, fun h => absurd hl (Nat.not_lt.mpr h)⟩
  · rw [if_neg e]
    exact ⟨h1, h2, h3⟩
end
section
/-- the bit operations, on whole numbers, by the machine's own -/
def jand (x y : Int) : Int := (Int32.ofInt x &&& Int32.ofInt y).toInt
def jor (x y : Int) : Int := (Int32.ofInt x ||| Int32.ofInt y).toInt
def jxor (x y : Int) : Int := (Int32.ofInt x ^^^ Int32.ofInt y).toInt
def jshl (x y : Int) : Int := (Int32.ofInt x <<< (Int32.ofInt y &&& 31)).toInt
def jshr (x y : Int) : Int := (Int32.ofInt x >>> (Int32.ofInt y &&& 31)).toInt
def jushr (x y : Int) : Int := (((Int32.ofInt x).toUInt32 >>> ((Int32.ofInt y).toUInt32 &&& Int32.toUInt32 31)).toInt32).toInt
theorem jIn_toInt (x : Int32) : jIn x.toInt := by
  have h1 := Int32.le_toInt x
  have h2 := Int32.toInt_lt x
  exact ⟨by omega, by omega⟩
section RULES
variable {l : Launch} {z : Nat} {X : jX} {d : Nat} {mm : jMt} {a : Nat × Nat} {pc : Nat} {L S : List jV} {μ : jM} {Q : Option jV → jM → Prop}
theorem J_iconst {n : Int} (hd : decode mm.2.1 pc = .ok (.iconst n, 1)) (hr : jIn n) (k : J l z X d mm a (pc + 1) L (jI n :: S) μ Q) : J l z X d mm a pc L (S) μ Q := by
  intro D aC p e R s m args below meth c Φ hc he H locs cells slots ls ha
  obtain ⟨hH, hl, hLn, hLo, hSo⟩ := id ha
  refine lv_iconst (v := Int32.ofInt n) hc.1 hc.2.1 hd rfl ?_
  exact k D aC p e R s m args below meth c Φ hc he H locs cells slots ls ⟨hH, hl, hLn, hLo, ⟨hr, hSo⟩⟩
theorem J_bipush {n : Int} (hd : decode mm.2.1 pc = .ok (.bipush n, 2)) (hr : jIn n) (hv : (Int8.ofInt n).toInt32 = Int32.ofInt n) (k : J l z X d mm a (pc + 2) L (jI n :: S) μ Q) : J l z X d mm a pc L (S) μ Q := by
  intro D aC p e R s m args below meth c Φ hc he H locs cells slots ls ha
  obtain ⟨hH, hl, hLn, hLo, hSo⟩ := id ha
  refine lv_bipush (v := Int32.ofInt n) hc.1 hc.2.1 hd hv ?_
  exact k D aC p e R s m args below meth c Φ hc he H locs cells slots ls ⟨hH, hl, hLn, hLo, ⟨hr, hSo⟩⟩
theorem J_sipush {n : Int} (hd : decode mm.2.1 pc = .ok (.sipush n, 3)) (hr : jIn n) (hv : (Int16.ofInt n).toInt32 = Int32.ofInt n) (k : J l z X d mm a (pc + 3) L (jI n :: S) μ Q) : J l z X d mm a pc L (S) μ Q := by
  intro D aC p e R s m args below meth c Φ hc he H locs cells slots ls ha
  obtain ⟨hH, hl, hLn, hLo, hSo⟩ := id ha
  refine lv_sipush (v := Int32.ofInt n) hc.1 hc.2.1 hd hv ?_
  exact k D aC p e R s m args below meth c Φ hc he H locs cells slots ls ⟨hH, hl, hLn, hLo, ⟨hr, hSo⟩⟩
theorem J_lconst {n : Fin 2} {x : Int} (hd : decode mm.2.1 pc = .ok (.lconst n, 1)) (hr : jInL x) (hv : Int64.ofNat (n : Nat) = Int64.ofInt x) (k : J l z X d mm a (pc + 1) L (jL x :: S) μ Q) : J l z X d mm a pc L (S) μ Q := by
  intro D aC p e R s m args below meth c Φ hc he H locs cells slots ls ha
  obtain ⟨hH, hl, hLn, hLo, hSo⟩ := id ha
  refine lv_lconst (v := Int64.ofInt x) hc.1 hc.2.1 hd hv ?_
  exact k D aC p e R s m args below meth c Φ hc he H locs cells slots ls ⟨hH, hl, hLn, hLo, ⟨hr, hSo⟩⟩
theorem J_ldc {index : Nat} {v : Int32} {x : Int} (hd : decode mm.2.1 pc = .ok (.ldc index, 2)) (hw : Jvm.Cond.constant mm.1.cls index v ∈ jW) (hr : jIn x) (hv : v = Int32.ofInt x) (k : J l z X d mm a (pc + 2) L (jI x :: S) μ Q) : J l z X d mm a pc L (S) μ Q := by
  intro D aC p e R s m args below meth c Φ hc he H locs cells slots ls ha
  obtain ⟨hH, hl, hLn, hLo, hSo⟩ := id ha
  refine lv_ldc hc.1 hc.2.1 hc.2.2.2.2.2.1 (hc.2.2.2.2.2.2.2.1 _ hw) hd ?_
  rw [hv]
  exact k D aC p e R s m args below meth c Φ hc he H locs cells slots ls ⟨hH, hl, hLn, hLo, ⟨hr, hSo⟩⟩
theorem J_ldcw {index : Nat} {v : Int32} {x : Int} (hd : decode mm.2.1 pc = .ok (.ldc_w index, 3)) (hw : Jvm.Cond.constant mm.1.cls index v ∈ jW) (hr : jIn x) (hv : v = Int32.ofInt x) (k : J l z X d mm a (pc + 3) L (jI x :: S) μ Q) : J l z X d mm a pc L (S) μ Q := by
  intro D aC p e R s m args below meth c Φ hc he H locs cells slots ls ha
  obtain ⟨hH, hl, hLn, hLo, hSo⟩ := id ha
  refine lv_ldcw hc.1 hc.2.1 hc.2.2.2.2.2.1 (hc.2.2.2.2.2.2.2.1 _ hw) hd ?_
  rw [hv]
  exact k D aC p e R s m args below meth c Φ hc he H locs cells slots ls ⟨hH, hl, hLn, hLo, ⟨hr, hSo⟩⟩
theorem J_ldc2 {index : Nat} {v : Int64} {x : Int} (hd : decode mm.2.1 pc = .ok (.ldc2_w index, 3)) (hw : Jvm.Cond.constantLong mm.1.cls index v ∈ jW) (hr : jInL x) (hv : v = Int64.ofInt x) (k : J l z X d mm a (pc + 3) L (jL x :: S) μ Q) : J l z X d mm a pc L (S) μ Q := by
  intro D aC p e R s m args below meth c Φ hc he H locs cells slots ls ha
  obtain ⟨hH, hl, hLn, hLo, hSo⟩ := id ha
  refine lv_ldc2 hc.1 hc.2.1 hc.2.2.2.2.2.1 (hc.2.2.2.2.2.2.2.1 _ hw) hd ?_
  rw [hv]
  exact k D aC p e R s m args below meth c Φ hc he H locs cells slots ls ⟨hH, hl, hLn, hLo, ⟨hr, hSo⟩⟩
theorem J_iload_n {k0 : Fin 4} {x : Int} (hd : decode mm.2.1 pc = .ok (.iload_n k0, 1)) (hk : L[(k0 : Nat)]? = some (jI x)) (k : J l z X d mm a (pc + 1) L (jI x :: S) μ Q) : J l z X d mm a pc L (S) μ Q := by
  intro D aC p e R s m args below meth c Φ hc he H locs cells slots ls ha
  obtain ⟨hH, hl, hLn, hLo, hSo⟩ := id ha
  refine lv_iload_n hc.1 hc.2.1 hd rfl (jlv_at hl hk (by simp)) ?_
  exact k D aC p e R s m args below meth c Φ hc he H locs cells slots ls ⟨hH, hl, hLn, hLo, ⟨jokL_at hLo hk, hSo⟩⟩
theorem J_iload {i : Nat} {x : Int} (hd : decode mm.2.1 pc = .ok (.iload i, 2)) (hk : L[i]? = some (jI x)) (k : J l z X d mm a (pc + 2) L (jI x :: S) μ Q) : J l z X d mm a pc L (S) μ Q := by
  intro D aC p e R s m args below meth c Φ hc he H locs cells slots ls ha
  obtain ⟨hH, hl, hLn, hLo, hSo⟩ := id ha
  refine lv_iload hc.1 hc.2.1 hd (jlv_at hl hk (by simp)) ?_
  exact k D aC p e R s m args below meth c Φ hc he H locs cells slots ls ⟨hH, hl, hLn, hLo, ⟨jokL_at hLo hk, hSo⟩⟩
theorem J_lload_n {k0 : Fin 4} {x : Int} (hd : decode mm.2.1 pc = .ok (.lload_n k0, 1)) (hk : L[(k0 : Nat)]? = some (jL x)) (k : J l z X d mm a (pc + 1) L (jL x :: S) μ Q) : J l z X d mm a pc L (S) μ Q := by
  intro D aC p e R s m args below meth c Φ hc he H locs cells slots ls ha
  obtain ⟨hH, hl, hLn, hLo, hSo⟩ := id ha
  refine lv_lload_n hc.1 hc.2.1 hd rfl (jlv_at hl hk (by simp)) ?_
  exact k D aC p e R s m args below meth c Φ hc he H locs cells slots ls ⟨hH, hl, hLn, hLo, ⟨jokL_at hLo hk, hSo⟩⟩
theorem J_lload {i : Nat} {x : Int} (hd : decode mm.2.1 pc = .ok (.lload i, 2)) (hk : L[i]? = some (jL x)) (k : J l z X d mm a (pc + 2) L (jL x :: S) μ Q) : J l z X d mm a pc L (S) μ Q := by
  intro D aC p e R s m args below meth c Φ hc he H locs cells slots ls ha
  obtain ⟨hH, hl, hLn, hLo, hSo⟩ := id ha
  refine lv_lload hc.1 hc.2.1 hd (jlv_at hl hk (by simp)) ?_
  exact k D aC p e R s m args below meth c Φ hc he H locs cells slots ls ⟨hH, hl, hLn, hLo, ⟨jokL_at hLo hk, hSo⟩⟩
theorem J_aload_n {k0 : Fin 4} {h : Nat} (hd : decode mm.2.1 pc = .ok (.aload_n k0, 1)) (hk : L[(k0 : Nat)]? = some (jR h)) (k : J l z X d mm a (pc + 1) L (jR h :: S) μ Q) : J l z X d mm a pc L (S) μ Q := by
  intro D aC p e R s m args below meth c Φ hc he H locs cells slots ls ha
  obtain ⟨hH, hl, hLn, hLo, hSo⟩ := id ha
  refine lv_aload_n hc.1 hc.2.1 hd rfl (jlv_at hl hk (by simp)) ?_
  exact k D aC p e R s m args below meth c Φ hc he H locs cells slots ls ⟨hH, hl, hLn, hLo, ⟨trivial, hSo⟩⟩
theorem J_aload {i : Nat} {h : Nat} (hd : decode mm.2.1 pc = .ok (.aload i, 2)) (hk : L[i]? = some (jR h)) (k : J l z X d mm a (pc + 2) L (jR h :: S) μ Q) : J l z X d mm a pc L (S) μ Q := by
  intro D aC p e R s m args below meth c Φ hc he H locs cells slots ls ha
  obtain ⟨hH, hl, hLn, hLo, hSo⟩ := id ha
  refine lv_aload hc.1 hc.2.1 hd (jlv_at hl hk (by simp)) ?_
  exact k D aC p e R s m args below meth c Φ hc he H locs cells slots ls ⟨hH, hl, hLn, hLo, ⟨trivial, hSo⟩⟩
theorem J_aload_nS {k0 : Fin 4}  (hd : decode mm.2.1 pc = .ok (.aload_n k0, 1)) (hk : L[(k0 : Nat)]? = some (jS)) (k : J l z X d mm a (pc + 1) L (jS :: S) μ Q) : J l z X d mm a pc L (S) μ Q := by
  intro D aC p e R s m args below meth c Φ hc he H locs cells slots ls ha
  obtain ⟨hH, hl, hLn, hLo, hSo⟩ := id ha
  refine lv_aload_n hc.1 hc.2.1 hd rfl (jlv_at hl hk (by simp)) ?_
  exact k D aC p e R s m args below meth c Φ hc he H locs cells slots ls ⟨hH, hl, hLn, hLo, ⟨trivial, hSo⟩⟩
theorem J_aloadS {i : Nat}  (hd : decode mm.2.1 pc = .ok (.aload i, 2)) (hk : L[i]? = some (jS)) (k : J l z X d mm a (pc + 2) L (jS :: S) μ Q) : J l z X d mm a pc L (S) μ Q := by
  intro D aC p e R s m args below meth c Φ hc he H locs cells slots ls ha
  obtain ⟨hH, hl, hLn, hLo, hSo⟩ := id ha
  refine lv_aload hc.1 hc.2.1 hd (jlv_at hl hk (by simp)) ?_
  exact k D aC p e R s m args below meth c Φ hc he H locs cells slots ls ⟨hH, hl, hLn, hLo, ⟨trivial, hSo⟩⟩
theorem J_istore_n {k0 : Fin 4} {x : Int} (hd : decode mm.2.1 pc = .ok (.istore_n k0, 1)) (hi : (k0 : Nat) < L.length) (k : J l z X d mm a (pc + 1) (jset1 L (k0 : Nat) (jI x)) S μ Q) : J l z X d mm a pc L (jI x :: S) μ Q := by
  intro D aC p e R s m args below meth c Φ hc he H locs cells slots ls ha
  obtain ⟨hH, hl, hLn, hLo, hSo⟩ := id ha
  refine lv_istore_n hc.1 hc.2.1 hd rfl hl (by rw [← hLn]; exact hi) rfl (fun ls' h' => ?_)
  exact k D aC p e R s m args below meth c Φ hc he H locs cells slots ls' ⟨hH, jst1 (v := jI x) h', (jset1_len L _).trans hLn, jset1_ok (v := jI x) hSo.1 L _ hLo, hSo.2⟩
theorem J_istore {i : Nat} {x : Int} (hd : decode mm.2.1 pc = .ok (.istore i, 2)) (hi : i < L.length) (k : J l z X d mm a (pc + 2) (jset1 L i (jI x)) S μ Q) : J l z X d mm a pc L (jI x :: S) μ Q := by
  intro D aC p e R s m args below meth c Φ hc he H locs cells slots ls ha
  obtain ⟨hH, hl, hLn, hLo, hSo⟩ := id ha
  refine lv_istore hc.1 hc.2.1 hd hl (by rw [← hLn]; exact hi) rfl (fun ls' h' => ?_)
  exact k D aC p e R s m args below meth c Φ hc he H locs cells slots ls' ⟨hH, jst1 (v := jI x) h', (jset1_len L _).trans hLn, jset1_ok (v := jI x) hSo.1 L _ hLo, hSo.2⟩
theorem J_lstore_n {k0 : Fin 4} {x : Int} (hd : decode mm.2.1 pc = .ok (.lstore_n k0, 1)) (hi : (k0 : Nat) + 1 < L.length) (k : J l z X d mm a (pc + 1) (jset2 L (k0 : Nat) (jL x)) S μ Q) : J l z X d mm a pc L (jL x :: S) μ Q := by
  intro D aC p e R s m args below meth c Φ hc he H locs cells slots ls ha
  obtain ⟨hH, hl, hLn, hLo, hSo⟩ := id ha
  refine lv_lstore_n hc.1 hc.2.1 hd rfl hl (by rw [← hLn]; exact hi) rfl (fun ls' h' => ?_)
  exact k D aC p e R s m args below meth c Φ hc he H locs cells slots ls' ⟨hH, jst2 (v := jL x) h', (jset2_len L _).trans hLn, jset2_ok (v := jL x) hSo.1 L _ hLo, hSo.2⟩
theorem J_lstore {i : Nat} {x : Int} (hd : decode mm.2.1 pc = .ok (.lstore i, 2)) (hi : i + 1 < L.length) (k : J l z X d mm a (pc + 2) (jset2 L i (jL x)) S μ Q) : J l z X d mm a pc L (jL x :: S) μ Q := by
  intro D aC p e R s m args below meth c Φ hc he H locs cells slots ls ha
  obtain ⟨hH, hl, hLn, hLo, hSo⟩ := id ha
  refine lv_lstore hc.1 hc.2.1 hd hl (by rw [← hLn]; exact hi) rfl (fun ls' h' => ?_)
  exact k D aC p e R s m args below meth c Φ hc he H locs cells slots ls' ⟨hH, jst2 (v := jL x) h', (jset2_len L _).trans hLn, jset2_ok (v := jL x) hSo.1 L _ hLo, hSo.2⟩
theorem J_astore_n {k0 : Fin 4} {x : Nat} (hd : decode mm.2.1 pc = .ok (.astore_n k0, 1)) (hi : (k0 : Nat) < L.length) (k : J l z X d mm a (pc + 1) (jset1 L (k0 : Nat) (jR x)) S μ Q) : J l z X d mm a pc L (jR x :: S) μ Q := by
  intro D aC p e R s m args below meth c Φ hc he H locs cells slots ls ha
  obtain ⟨hH, hl, hLn, hLo, hSo⟩ := id ha
  refine lv_astore_n hc.1 hc.2.1 hd rfl hl (by rw [← hLn]; exact hi) rfl (fun ls' h' => ?_)
  exact k D aC p e R s m args below meth c Φ hc he H locs cells slots ls' ⟨hH, jst1 (v := jR x) h', (jset1_len L _).trans hLn, jset1_ok (v := jR x) trivial L _ hLo, hSo.2⟩
theorem J_astore {i : Nat} {x : Nat} (hd : decode mm.2.1 pc = .ok (.astore i, 2)) (hi : i < L.length) (k : J l z X d mm a (pc + 2) (jset1 L i (jR x)) S μ Q) : J l z X d mm a pc L (jR x :: S) μ Q := by
  intro D aC p e R s m args below meth c Φ hc he H locs cells slots ls ha
  obtain ⟨hH, hl, hLn, hLo, hSo⟩ := id ha
  refine lv_astore hc.1 hc.2.1 hd hl (by rw [← hLn]; exact hi) rfl (fun ls' h' => ?_)
  exact k D aC p e R s m args below meth c Φ hc he H locs cells slots ls' ⟨hH, jst1 (v := jR x) h', (jset1_len L _).trans hLn, jset1_ok (v := jR x) trivial L _ hLo, hSo.2⟩
theorem J_iinc {i : Nat} {n x : Int} (hd : decode mm.2.1 pc = .ok (.iinc i n, 3)) (hk : L[i]? = some (jI x)) (hn : jIn n) (hr : jIn (x + n)) (k : J l z X d mm a (pc + 3) (jset1 L i (jI (x + n))) S μ Q) : J l z X d mm a pc L S μ Q := by
  intro D aC p e R s m args below meth c Φ hc he H locs cells slots ls ha
  obtain ⟨hH, hl, hLn, hLo, hSo⟩ := id ha
  obtain ⟨q, hq⟩ := List.getElem?_of_mem (jlv_mem (z := z) (X := X) (v := jI x) (by simp) L 0 i hk)
  rw [Nat.zero_add] at hq
  refine lv_iinc (v := Int32.ofInt (x + n)) hc.1 hc.2.1 hd hl hq (j32_add (jokL_at hLo hk) hn hr) (by rw [← hLn]; exact (List.getElem?_eq_some_iff.mp hk).1) rfl (fun ls' h' => ?_)
  exact k D aC p e R s m args below meth c Φ hc he H locs cells slots ls' ⟨hH, jst1 (v := jI (x + n)) h', (jset1_len L _).trans hLn, jset1_ok (v := jI (x + n)) hr L _ hLo, hSo⟩
theorem J_iadd {x y : Int} (hd : decode mm.2.1 pc = .ok (.iadd, 1)) (hr : jIn (x + y)) (k : J l z X d mm a (pc + 1) L (jI (x + y) :: S) μ Q) : J l z X d mm a pc L (jI y :: jI x :: S) μ Q := by
  intro D aC p e R s m args below meth c Φ hc he H locs cells slots ls ha
  obtain ⟨hH, hl, hLn, hLo, hSo⟩ := id ha
  refine lv_iadd hc.1 hc.2.1 hd ?_
  rw [j32_add hSo.2.1 hSo.1 hr]
  exact k D aC p e R s m args below meth c Φ hc he H locs cells slots ls ⟨hH, hl, hLn, hLo, ⟨hr, hSo.2.2⟩⟩
theorem J_ladd {x y : Int} (hd : decode mm.2.1 pc = .ok (.ladd, 1)) (hr : jInL (x + y)) (k : J l z X d mm a (pc + 1) L (jL (x + y) :: S) μ Q) : J l z X d mm a pc L (jL y :: jL x :: S) μ Q := by
  intro D aC p e R s m args below meth c Φ hc he H locs cells slots ls ha
  obtain ⟨hH, hl, hLn, hLo, hSo⟩ := id ha
  refine lv_ladd hc.1 hc.2.1 hd ?_
  rw [j64_add hSo.2.1 hSo.1 hr]
  exact k D aC p e R s m args below meth c Φ hc he H locs cells slots ls ⟨hH, hl, hLn, hLo, ⟨hr, hSo.2.2⟩⟩
theorem J_isub {x y : Int} (hd : decode mm.2.1 pc = .ok (.isub, 1)) (hr : jIn (x - y)) (k : J l z X d mm a (pc + 1) L (jI (x - y) :: S) μ Q) : J l z X d mm a pc L (jI y :: jI x :: S) μ Q := by
  intro D aC p e R s m args below meth c Φ hc he H locs cells slots ls ha
  obtain ⟨hH, hl, hLn, hLo, hSo⟩ := id ha
  refine lv_isub hc.1 hc.2.1 hd ?_
  rw [j32_sub hSo.2.1 hSo.1 hr]
  exact k D aC p e R s m args below meth c Φ hc he H locs cells slots ls ⟨hH, hl, hLn, hLo, ⟨hr, hSo.2.2⟩⟩
theorem J_lsub {x y : Int} (hd : decode mm.2.1 pc = .ok (.lsub, 1)) (hr : jInL (x - y)) (k : J l z X d mm a (pc + 1) L (jL (x - y) :: S) μ Q) : J l z X d mm a pc L (jL y :: jL x :: S) μ Q := by
  intro D aC p e R s m args below meth c Φ hc he H locs cells slots ls ha
  obtain ⟨hH, hl, hLn, hLo, hSo⟩ := id ha
  refine lv_lsub hc.1 hc.2.1 hd ?_
  rw [j64_sub hSo.2.1 hSo.1 hr]
  exact k D aC p e R s m args below meth c Φ hc he H locs cells slots ls ⟨hH, hl, hLn, hLo, ⟨hr, hSo.2.2⟩⟩
theorem J_imul {x y : Int} (hd : decode mm.2.1 pc = .ok (.imul, 1)) (hr : jIn (x * y)) (k : J l z X d mm a (pc + 1) L (jI (x * y) :: S) μ Q) : J l z X d mm a pc L (jI y :: jI x :: S) μ Q := by
  intro D aC p e R s m args below meth c Φ hc he H locs cells slots ls ha
  obtain ⟨hH, hl, hLn, hLo, hSo⟩ := id ha
  refine lv_imul hc.1 hc.2.1 hd ?_
  rw [j32_mul hSo.2.1 hSo.1 hr]
  exact k D aC p e R s m args below meth c Φ hc he H locs cells slots ls ⟨hH, hl, hLn, hLo, ⟨hr, hSo.2.2⟩⟩
theorem J_lmul {x y : Int} (hd : decode mm.2.1 pc = .ok (.lmul, 1)) (hr : jInL (x * y)) (k : J l z X d mm a (pc + 1) L (jL (x * y) :: S) μ Q) : J l z X d mm a pc L (jL y :: jL x :: S) μ Q := by
  intro D aC p e R s m args below meth c Φ hc he H locs cells slots ls ha
  obtain ⟨hH, hl, hLn, hLo, hSo⟩ := id ha
  refine lv_lmul hc.1 hc.2.1 hd ?_
  rw [j64_mul hSo.2.1 hSo.1 hr]
  exact k D aC p e R s m args below meth c Φ hc he H locs cells slots ls ⟨hH, hl, hLn, hLo, ⟨hr, hSo.2.2⟩⟩
theorem J_idiv {x y : Int} (hd : decode mm.2.1 pc = .ok (.idiv, 1)) (h0 : 0 ≤ x) (h1 : 0 < y) (k : J l z X d mm a (pc + 1) L (jI (x / y) :: S) μ Q) : J l z X d mm a pc L (jI y :: jI x :: S) μ Q := by
  intro D aC p e R s m args below meth c Φ hc he H locs cells slots ls ha
  obtain ⟨hH, hl, hLn, hLo, hSo⟩ := id ha
  refine lv_idiv hc.1 hc.2.1 hd (fun q => by rw [j32_0, j32_eq hSo.1 jIn0] at q; omega) ?_
  rw [(j32_div hSo.2.1 hSo.1 h0 h1).1]
  exact k D aC p e R s m args below meth c Φ hc he H locs cells slots ls ⟨hH, hl, hLn, hLo, ⟨(j32_div hSo.2.1 hSo.1 h0 h1).2, hSo.2.2⟩⟩
theorem J_ldiv {x y : Int} (hd : decode mm.2.1 pc = .ok (.ldiv, 1)) (h0 : 0 ≤ x) (h1 : 0 < y) (k : J l z X d mm a (pc + 1) L (jL (x / y) :: S) μ Q) : J l z X d mm a pc L (jL y :: jL x :: S) μ Q := by
  intro D aC p e R s m args below meth c Φ hc he H locs cells slots ls ha
  obtain ⟨hH, hl, hLn, hLo, hSo⟩ := id ha
  refine lv_ldiv hc.1 hc.2.1 hd (fun q => by rw [show (0 : Int64) = Int64.ofInt 0 by decide +kernel, ← Int64.toInt_inj, j64 hSo.1, j64 (by unfold jInL; omega)] at q; omega) ?_
  rw [(j64_div hSo.2.1 hSo.1 h0 h1).1]
  exact k D aC p e R s m args below meth c Φ hc he H locs cells slots ls ⟨hH, hl, hLn, hLo, ⟨(j64_div hSo.2.1 hSo.1 h0 h1).2, hSo.2.2⟩⟩
theorem J_irem {x y : Int} (hd : decode mm.2.1 pc = .ok (.irem, 1)) (h0 : 0 ≤ x) (h1 : 0 < y) (k : J l z X d mm a (pc + 1) L (jI (x % y) :: S) μ Q) : J l z X d mm a pc L (jI y :: jI x :: S) μ Q := by
  intro D aC p e R s m args below meth c Φ hc he H locs cells slots ls ha
  obtain ⟨hH, hl, hLn, hLo, hSo⟩ := id ha
  refine lv_irem hc.1 hc.2.1 hd (fun q => by rw [j32_0, j32_eq hSo.1 jIn0] at q; omega) ?_
  rw [(j32_mod hSo.2.1 hSo.1 h0 h1).1]
  exact k D aC p e R s m args below meth c Φ hc he H locs cells slots ls ⟨hH, hl, hLn, hLo, ⟨(j32_mod hSo.2.1 hSo.1 h0 h1).2, hSo.2.2⟩⟩
theorem J_lrem {x y : Int} (hd : decode mm.2.1 pc = .ok (.lrem, 1)) (h0 : 0 ≤ x) (h1 : 0 < y) (k : J l z X d mm a (pc + 1) L (jL (x % y) :: S) μ Q) : J l z X d mm a pc L (jL y :: jL x :: S) μ Q := by
  intro D aC p e R s m args below meth c Φ hc he H locs cells slots ls ha
  obtain ⟨hH, hl, hLn, hLo, hSo⟩ := id ha
  refine lv_lrem hc.1 hc.2.1 hd (fun q => by rw [show (0 : Int64) = Int64.ofInt 0 by decide +kernel, ← Int64.toInt_inj, j64 hSo.1, j64 (by unfold jInL; omega)] at q; omega) ?_
  rw [(j64_mod hSo.2.1 hSo.1 h0 h1).1]
  exact k D aC p e R s m args below meth c Φ hc he H locs cells slots ls ⟨hH, hl, hLn, hLo, ⟨(j64_mod hSo.2.1 hSo.1 h0 h1).2, hSo.2.2⟩⟩
theorem J_iand {x y : Int} (hd : decode mm.2.1 pc = .ok (.iand, 1)) (k : J l z X d mm a (pc + 1) L (jI (jand x y) :: S) μ Q) : J l z X d mm a pc L (jI y :: jI x :: S) μ Q := by
  intro D aC p e R s m args below meth c Φ hc he H locs cells slots ls ha
  obtain ⟨hH, hl, hLn, hLo, hSo⟩ := id ha
  refine lv_iand hc.1 hc.2.1 hd ?_
  have k1 := k D aC p e R s m args below meth c Φ hc he H locs cells slots ls ⟨hH, hl, hLn, hLo, ⟨jIn_toInt _, hSo.2.2⟩⟩
  simp only [List.map_cons, jval, jand, Int32.ofInt_toInt] at k1
  exact k1
theorem J_ior {x y : Int} (hd : decode mm.2.1 pc = .ok (.ior, 1)) (k : J l z X d mm a (pc + 1) L (jI (jor x y) :: S) μ Q) : J l z X d mm a pc L (jI y :: jI x :: S) μ Q := by
  intro D aC p e R s m args below meth c Φ hc he H locs cells slots ls ha
  obtain ⟨hH, hl, hLn, hLo, hSo⟩ := id ha
  refine lv_ior hc.1 hc.2.1 hd ?_
  have k1 := k D aC p e R s m args below meth c Φ hc he H locs cells slots ls ⟨hH, hl, hLn, hLo, ⟨jIn_toInt _, hSo.2.2⟩⟩
  simp only [List.map_cons, jval, jor, Int32.ofInt_toInt] at k1
  exact k1
theorem J_ixor {x y : Int} (hd : decode mm.2.1 pc = .ok (.ixor, 1)) (k : J l z X d mm a (pc + 1) L (jI (jxor x y) :: S) μ Q) : J l z X d mm a pc L (jI y :: jI x :: S) μ Q := by
  intro D aC p e R s m args below meth c Φ hc he H locs cells slots ls ha
  obtain ⟨hH, hl, hLn, hLo, hSo⟩ := id ha
  refine lv_ixor hc.1 hc.2.1 hd ?_
  have k1 := k D aC p e R s m args below meth c Φ hc he H locs cells slots ls ⟨hH, hl, hLn, hLo, ⟨jIn_toInt _, hSo.2.2⟩⟩
  simp only [List.map_cons, jval, jxor, Int32.ofInt_toInt] at k1
  exact k1
theorem J_ishl {x y : Int} (hd : decode mm.2.1 pc = .ok (.ishl, 1)) (k : J l z X d mm a (pc + 1) L (jI (jshl x y) :: S) μ Q) : J l z X d mm a pc L (jI y :: jI x :: S) μ Q := by
  intro D aC p e R s m args below meth c Φ hc he H locs cells slots ls ha
  obtain ⟨hH, hl, hLn, hLo, hSo⟩ := id ha
  refine lv_ishl hc.1 hc.2.1 hd ?_
  have k1 := k D aC p e R s m args below meth c Φ hc he H locs cells slots ls ⟨hH, hl, hLn, hLo, ⟨jIn_toInt _, hSo.2.2⟩⟩
  simp only [List.map_cons, jval, jshl, Int32.ofInt_toInt] at k1
  exact k1
theorem J_ishr {x y : Int} (hd : decode mm.2.1 pc = .ok (.ishr, 1)) (k : J l z X d mm a (pc + 1) L (jI (jshr x y) :: S) μ Q) : J l z X d mm a pc L (jI y :: jI x :: S) μ Q := by
  intro D aC p e R s m args below meth c Φ hc he H locs cells slots ls ha
  obtain ⟨hH, hl, hLn, hLo, hSo⟩ := id ha
  refine lv_ishr hc.1 hc.2.1 hd ?_
  have k1 := k D aC p e R s m args below meth c Φ hc he H locs cells slots ls ⟨hH, hl, hLn, hLo, ⟨jIn_toInt _, hSo.2.2⟩⟩
  simp only [List.map_cons, jval, jshr, Int32.ofInt_toInt] at k1
  exact k1
theorem J_iushr {x y : Int} (hd : decode mm.2.1 pc = .ok (.iushr, 1)) (k : J l z X d mm a (pc + 1) L (jI (jushr x y) :: S) μ Q) : J l z X d mm a pc L (jI y :: jI x :: S) μ Q := by
  intro D aC p e R s m args below meth c Φ hc he H locs cells slots ls ha
  obtain ⟨hH, hl, hLn, hLo, hSo⟩ := id ha
  refine lv_iushr hc.1 hc.2.1 hd rfl ?_
  have k1 := k D aC p e R s m args below meth c Φ hc he H locs cells slots ls ⟨hH, hl, hLn, hLo, ⟨jIn_toInt _, hSo.2.2⟩⟩
  simp only [List.map_cons, jval, jushr, Int32.ofInt_toInt] at k1
  exact k1
theorem J_i2l {x : Int} (hd : decode mm.2.1 pc = .ok (.i2l, 1)) (k : J l z X d mm a (pc + 1) L (jL x :: S) μ Q) : J l z X d mm a pc L (jI x :: S) μ Q := by
  intro D aC p e R s m args below meth c Φ hc he H locs cells slots ls ha
  obtain ⟨hH, hl, hLn, hLo, hSo⟩ := id ha
  refine lv_i2l (v := Int64.ofInt x) hc.1 hc.2.1 hd (j32_64 hSo.1) ?_
  exact k D aC p e R s m args below meth c Φ hc he H locs cells slots ls ⟨hH, hl, hLn, hLo, ⟨⟨by have := hSo.1.1; omega, by have := hSo.1.2; omega⟩, hSo.2⟩⟩
theorem J_l2i {x : Int} (hd : decode mm.2.1 pc = .ok (.l2i, 1)) (hr : jIn x) (k : J l z X d mm a (pc + 1) L (jI x :: S) μ Q) : J l z X d mm a pc L (jL x :: S) μ Q := by
  intro D aC p e R s m args below meth c Φ hc he H locs cells slots ls ha
  obtain ⟨hH, hl, hLn, hLo, hSo⟩ := id ha
  refine lv_l2i (v := Int32.ofInt x) hc.1 hc.2.1 hd (Int64.toInt32_ofInt) ?_
  exact k D aC p e R s m args below meth c Φ hc he H locs cells slots ls ⟨hH, hl, hLn, hLo, ⟨hr, hSo.2⟩⟩
theorem J_lcmp {x y : Int} (hd : decode mm.2.1 pc = .ok (.lcmp, 1)) (k : J l z X d mm a (pc + 1) L (jI (if y < x then 1 else if x = y then 0 else -1) :: S) μ Q) : J l z X d mm a pc L (jL y :: jL x :: S) μ Q := by
  intro D aC p e R s m args below meth c Φ hc he H locs cells slots ls ha
  obtain ⟨hH, hl, hLn, hLo, hSo⟩ := id ha
  refine W.lcmp hc.1 hc.2.1 hd ?_
  have e9 : lg_cmp (Int64.ofInt x) (Int64.ofInt y) = Int32.ofInt (if y < x then 1 else if x = y then 0 else -1) := by
    have e1 : (Int64.ofInt x > Int64.ofInt y) ↔ y < x := by
      show Int64.ofInt y < Int64.ofInt x ↔ _
      rw [Int64.lt_iff_toInt_lt, j64 hSo.1, j64 hSo.2.1]
    have e2 : (Int64.ofInt x = Int64.ofInt y) ↔ x = y := by rw [← Int64.toInt_inj, j64 hSo.1, j64 hSo.2.1]
    unfold lg_cmp
    simp only [e1, e2]
    by_cases h1 : y < x
    · rw [if_pos h1, if_pos h1]; decide +kernel
    · rw [if_neg h1, if_neg h1]
      by_cases h2 : x = y
      · rw [if_pos h2, if_pos h2]; decide +kernel
      · rw [if_neg h2, if_neg h2]; decide +kernel
  rw [e9]
  refine k D aC p e R s m args below meth c Φ hc he H locs cells slots ls ⟨hH, hl, hLn, hLo, ⟨?_, hSo.2.2⟩⟩
  show jIn _
  unfold jIn
  by_cases h1 : y < x
  · rw [if_pos h1]; omega
  · rw [if_neg h1]
    by_cases h2 : x = y
    · rw [if_pos h2]; omega
    · rw [if_neg h2]; omega
theorem J_dup2_II {x : Int} {y : Int} (hd : decode mm.2.1 pc = .ok (.dup2, 1)) (k : J l z X d mm a (pc + 1) L (jI y :: jI x :: jI y :: jI x :: S) μ Q) : J l z X d mm a pc L (jI y :: jI x :: S) μ Q := by
  intro D aC p e R s m args below meth c Φ hc he H locs cells slots ls ha
  obtain ⟨hH, hl, hLn, hLo, hSo⟩ := id ha
  refine lv_dup2_11 hc.1 hc.2.1 hd rfl rfl ?_
  exact k D aC p e R s m args below meth c Φ hc he H locs cells slots ls ⟨hH, hl, hLn, hLo, ⟨hSo.1, hSo.2.1, hSo⟩⟩
theorem J_dup2_RI {x : Nat} {y : Int} (hd : decode mm.2.1 pc = .ok (.dup2, 1)) (k : J l z X d mm a (pc + 1) L (jI y :: jR x :: jI y :: jR x :: S) μ Q) : J l z X d mm a pc L (jI y :: jR x :: S) μ Q := by
  intro D aC p e R s m args below meth c Φ hc he H locs cells slots ls ha
  obtain ⟨hH, hl, hLn, hLo, hSo⟩ := id ha
  refine lv_dup2_11 hc.1 hc.2.1 hd rfl rfl ?_
  exact k D aC p e R s m args below meth c Φ hc he H locs cells slots ls ⟨hH, hl, hLn, hLo, ⟨hSo.1, hSo.2.1, hSo⟩⟩
theorem J_dup2_RR {x : Nat} {y : Nat} (hd : decode mm.2.1 pc = .ok (.dup2, 1)) (k : J l z X d mm a (pc + 1) L (jR y :: jR x :: jR y :: jR x :: S) μ Q) : J l z X d mm a pc L (jR y :: jR x :: S) μ Q := by
  intro D aC p e R s m args below meth c Φ hc he H locs cells slots ls ha
  obtain ⟨hH, hl, hLn, hLo, hSo⟩ := id ha
  refine lv_dup2_11 hc.1 hc.2.1 hd rfl rfl ?_
  exact k D aC p e R s m args below meth c Φ hc he H locs cells slots ls ⟨hH, hl, hLn, hLo, ⟨hSo.1, hSo.2.1, hSo⟩⟩
theorem J_dupI {x : Int} (hd : decode mm.2.1 pc = .ok (.dup, 1)) (k : J l z X d mm a (pc + 1) L (jI x :: jI x :: S) μ Q) : J l z X d mm a pc L (jI x :: S) μ Q := by
  intro D aC p e R s m args below meth c Φ hc he H locs cells slots ls ha
  obtain ⟨hH, hl, hLn, hLo, hSo⟩ := id ha
  refine lv_dup hc.1 hc.2.1 hd rfl ?_
  exact k D aC p e R s m args below meth c Φ hc he H locs cells slots ls ⟨hH, hl, hLn, hLo, ⟨hSo.1, hSo⟩⟩
theorem J_dupR {x : Nat} (hd : decode mm.2.1 pc = .ok (.dup, 1)) (k : J l z X d mm a (pc + 1) L (jR x :: jR x :: S) μ Q) : J l z X d mm a pc L (jR x :: S) μ Q := by
  intro D aC p e R s m args below meth c Φ hc he H locs cells slots ls ha
  obtain ⟨hH, hl, hLn, hLo, hSo⟩ := id ha
  refine lv_dup hc.1 hc.2.1 hd rfl ?_
  exact k D aC p e R s m args below meth c Φ hc he H locs cells slots ls ⟨hH, hl, hLn, hLo, ⟨hSo.1, hSo⟩⟩
theorem J_if_eq {x off : Int} {tgt : Nat} (hd : decode mm.2.1 pc = .ok (.ifCond .eq off, 3)) (ht : (pc : Int) + off = (tgt : Int)) (kt : x = 0 → J l z X d mm a tgt L S μ Q) (kf : x ≠ 0 → J l z X d mm a (pc + 3) L S μ Q) : J l z X d mm a pc L (jI x :: S) μ Q := by
  intro D aC p e R s m args below meth c Φ hc he H locs cells slots ls ha
  obtain ⟨hH, hl, hLn, hLo, hSo⟩ := id ha
  have e9 := (j32_eq hSo.1 jIn0)
  rw [← j32_0] at e9
  refine lv_if_eq hc.1 hc.2.1 hd ht (fun q => kt (by rw [e9] at q; omega) D aC p e R s m args below meth c Φ hc he H locs cells slots ls ⟨hH, hl, hLn, hLo, hSo.2⟩) (fun q => kf (by rw [e9] at q; omega) D aC p e R s m args below meth c Φ hc he H locs cells slots ls ⟨hH, hl, hLn, hLo, hSo.2⟩)
theorem J_if_ne {x off : Int} {tgt : Nat} (hd : decode mm.2.1 pc = .ok (.ifCond .ne off, 3)) (ht : (pc : Int) + off = (tgt : Int)) (kt : x ≠ 0 → J l z X d mm a tgt L S μ Q) (kf : x = 0 → J l z X d mm a (pc + 3) L S μ Q) : J l z X d mm a pc L (jI x :: S) μ Q := by
  intro D aC p e R s m args below meth c Φ hc he H locs cells slots ls ha
  obtain ⟨hH, hl, hLn, hLo, hSo⟩ := id ha
  have e9 := (j32_eq hSo.1 jIn0)
  rw [← j32_0] at e9
  refine lv_if_ne hc.1 hc.2.1 hd ht (fun q => kt (by rw [e9] at q; omega) D aC p e R s m args below meth c Φ hc he H locs cells slots ls ⟨hH, hl, hLn, hLo, hSo.2⟩) (fun q => kf (by rw [e9] at q; omega) D aC p e R s m args below meth c Φ hc he H locs cells slots ls ⟨hH, hl, hLn, hLo, hSo.2⟩)
theorem J_if_lt {x off : Int} {tgt : Nat} (hd : decode mm.2.1 pc = .ok (.ifCond .lt off, 3)) (ht : (pc : Int) + off = (tgt : Int)) (kt : x < 0 → J l z X d mm a tgt L S μ Q) (kf : 0 ≤ x → J l z X d mm a (pc + 3) L S μ Q) : J l z X d mm a pc L (jI x :: S) μ Q := by
  intro D aC p e R s m args below meth c Φ hc he H locs cells slots ls ha
  obtain ⟨hH, hl, hLn, hLo, hSo⟩ := id ha
  have e9 := (j32_lt hSo.1 jIn0)
  rw [← j32_0] at e9
  refine lv_if_lt hc.1 hc.2.1 hd ht (fun q => kt (by rw [e9] at q; omega) D aC p e R s m args below meth c Φ hc he H locs cells slots ls ⟨hH, hl, hLn, hLo, hSo.2⟩) (fun q => kf (by rw [e9] at q; omega) D aC p e R s m args below meth c Φ hc he H locs cells slots ls ⟨hH, hl, hLn, hLo, hSo.2⟩)
theorem J_if_ge {x off : Int} {tgt : Nat} (hd : decode mm.2.1 pc = .ok (.ifCond .ge off, 3)) (ht : (pc : Int) + off = (tgt : Int)) (kt : 0 ≤ x → J l z X d mm a tgt L S μ Q) (kf : x < 0 → J l z X d mm a (pc + 3) L S μ Q) : J l z X d mm a pc L (jI x :: S) μ Q := by
  intro D aC p e R s m args below meth c Φ hc he H locs cells slots ls ha
  obtain ⟨hH, hl, hLn, hLo, hSo⟩ := id ha
  have e9 := (j32_le jIn0 hSo.1)
  rw [← j32_0] at e9
  refine lv_if_ge hc.1 hc.2.1 hd ht (fun q => kt (by rw [e9] at q; omega) D aC p e R s m args below meth c Φ hc he H locs cells slots ls ⟨hH, hl, hLn, hLo, hSo.2⟩) (fun q => kf (by rw [e9] at q; omega) D aC p e R s m args below meth c Φ hc he H locs cells slots ls ⟨hH, hl, hLn, hLo, hSo.2⟩)
theorem J_if_gt {x off : Int} {tgt : Nat} (hd : decode mm.2.1 pc = .ok (.ifCond .gt off, 3)) (ht : (pc : Int) + off = (tgt : Int)) (kt : 0 < x → J l z X d mm a tgt L S μ Q) (kf : x ≤ 0 → J l z X d mm a (pc + 3) L S μ Q) : J l z X d mm a pc L (jI x :: S) μ Q := by
  intro D aC p e R s m args below meth c Φ hc he H locs cells slots ls ha
  obtain ⟨hH, hl, hLn, hLo, hSo⟩ := id ha
  have e9 := (j32_lt jIn0 hSo.1)
  rw [← j32_0] at e9
  refine lv_if_gt hc.1 hc.2.1 hd ht (fun q => kt (by rw [e9] at q; omega) D aC p e R s m args below meth c Φ hc he H locs cells slots ls ⟨hH, hl, hLn, hLo, hSo.2⟩) (fun q => kf (by rw [e9] at q; omega) D aC p e R s m args below meth c Φ hc he H locs cells slots ls ⟨hH, hl, hLn, hLo, hSo.2⟩)
theorem J_if_le {x off : Int} {tgt : Nat} (hd : decode mm.2.1 pc = .ok (.ifCond .le off, 3)) (ht : (pc : Int) + off = (tgt : Int)) (kt : x ≤ 0 → J l z X d mm a tgt L S μ Q) (kf : 0 < x → J l z X d mm a (pc + 3) L S μ Q) : J l z X d mm a pc L (jI x :: S) μ Q := by
  intro D aC p e R s m args below meth c Φ hc he H locs cells slots ls ha
  obtain ⟨hH, hl, hLn, hLo, hSo⟩ := id ha
  have e9 := (j32_le hSo.1 jIn0)
  rw [← j32_0] at e9
  refine lv_if_le hc.1 hc.2.1 hd ht (fun q => kt (by rw [e9] at q; omega) D aC p e R s m args below meth c Φ hc he H locs cells slots ls ⟨hH, hl, hLn, hLo, hSo.2⟩) (fun q => kf (by rw [e9] at q; omega) D aC p e R s m args below meth c Φ hc he H locs cells slots ls ⟨hH, hl, hLn, hLo, hSo.2⟩)
theorem J_icmp_eq {x y off : Int} {tgt : Nat} (hd : decode mm.2.1 pc = .ok (.if_icmp .eq off, 3)) (ht : (pc : Int) + off = (tgt : Int)) (kt : x = y → J l z X d mm a tgt L S μ Q) (kf : x ≠ y → J l z X d mm a (pc + 3) L S μ Q) : J l z X d mm a pc L (jI y :: jI x :: S) μ Q := by
  intro D aC p e R s m args below meth c Φ hc he H locs cells slots ls ha
  obtain ⟨hH, hl, hLn, hLo, hSo⟩ := id ha
  have e9 := (j32_eq hSo.2.1 hSo.1)
  refine lv_icmp_eq hc.1 hc.2.1 hd ht (fun q => kt (by rw [e9] at q; omega) D aC p e R s m args below meth c Φ hc he H locs cells slots ls ⟨hH, hl, hLn, hLo, hSo.2.2⟩) (fun q => kf (by rw [e9] at q; omega) D aC p e R s m args below meth c Φ hc he H locs cells slots ls ⟨hH, hl, hLn, hLo, hSo.2.2⟩)
theorem J_icmp_ne {x y off : Int} {tgt : Nat} (hd : decode mm.2.1 pc = .ok (.if_icmp .ne off, 3)) (ht : (pc : Int) + off = (tgt : Int)) (kt : x ≠ y → J l z X d mm a tgt L S μ Q) (kf : x = y → J l z X d mm a (pc + 3) L S μ Q) : J l z X d mm a pc L (jI y :: jI x :: S) μ Q := by
  intro D aC p e R s m args below meth c Φ hc he H locs cells slots ls ha
  obtain ⟨hH, hl, hLn, hLo, hSo⟩ := id ha
  have e9 := (j32_eq hSo.2.1 hSo.1)
  refine lv_icmp_ne hc.1 hc.2.1 hd ht (fun q => kt (by rw [e9] at q; omega) D aC p e R s m args below meth c Φ hc he H locs cells slots ls ⟨hH, hl, hLn, hLo, hSo.2.2⟩) (fun q => kf (by rw [e9] at q; omega) D aC p e R s m args below meth c Φ hc he H locs cells slots ls ⟨hH, hl, hLn, hLo, hSo.2.2⟩)
theorem J_icmp_lt {x y off : Int} {tgt : Nat} (hd : decode mm.2.1 pc = .ok (.if_icmp .lt off, 3)) (ht : (pc : Int) + off = (tgt : Int)) (kt : x < y → J l z X d mm a tgt L S μ Q) (kf : y ≤ x → J l z X d mm a (pc + 3) L S μ Q) : J l z X d mm a pc L (jI y :: jI x :: S) μ Q := by
  intro D aC p e R s m args below meth c Φ hc he H locs cells slots ls ha
  obtain ⟨hH, hl, hLn, hLo, hSo⟩ := id ha
  have e9 := (j32_lt hSo.2.1 hSo.1)
  refine lv_icmp_lt hc.1 hc.2.1 hd ht (fun q => kt (by rw [e9] at q; omega) D aC p e R s m args below meth c Φ hc he H locs cells slots ls ⟨hH, hl, hLn, hLo, hSo.2.2⟩) (fun q => kf (by rw [e9] at q; omega) D aC p e R s m args below meth c Φ hc he H locs cells slots ls ⟨hH, hl, hLn, hLo, hSo.2.2⟩)
theorem J_icmp_ge {x y off : Int} {tgt : Nat} (hd : decode mm.2.1 pc = .ok (.if_icmp .ge off, 3)) (ht : (pc : Int) + off = (tgt : Int)) (kt : y ≤ x → J l z X d mm a tgt L S μ Q) (kf : x < y → J l z X d mm a (pc + 3) L S μ Q) : J l z X d mm a pc L (jI y :: jI x :: S) μ Q := by
  intro D aC p e R s m args below meth c Φ hc he H locs cells slots ls ha
  obtain ⟨hH, hl, hLn, hLo, hSo⟩ := id ha
  have e9 := (j32_le hSo.1 hSo.2.1)
  refine lv_icmp_ge hc.1 hc.2.1 hd ht (fun q => kt (by rw [e9] at q; omega) D aC p e R s m args below meth c Φ hc he H locs cells slots ls ⟨hH, hl, hLn, hLo, hSo.2.2⟩) (fun q => kf (by rw [e9] at q; omega) D aC p e R s m args below meth c Φ hc he H locs cells slots ls ⟨hH, hl, hLn, hLo, hSo.2.2⟩)
theorem J_icmp_gt {x y off : Int} {tgt : Nat} (hd : decode mm.2.1 pc = .ok (.if_icmp .gt off, 3)) (ht : (pc : Int) + off = (tgt : Int)) (kt : y < x → J l z X d mm a tgt L S μ Q) (kf : x ≤ y → J l z X d mm a (pc + 3) L S μ Q) : J l z X d mm a pc L (jI y :: jI x :: S) μ Q := by
  intro D aC p e R s m args below meth c Φ hc he H locs cells slots ls ha
  obtain ⟨hH, hl, hLn, hLo, hSo⟩ := id ha
  have e9 := (j32_lt hSo.1 hSo.2.1)
  refine lv_icmp_gt hc.1 hc.2.1 hd ht (fun q => kt (by rw [e9] at q; omega) D aC p e R s m args below meth c Φ hc he H locs cells slots ls ⟨hH, hl, hLn, hLo, hSo.2.2⟩) (fun q => kf (by rw [e9] at q; omega) D aC p e R s m args below meth c Φ hc he H locs cells slots ls ⟨hH, hl, hLn, hLo, hSo.2.2⟩)
theorem J_icmp_le {x y off : Int} {tgt : Nat} (hd : decode mm.2.1 pc = .ok (.if_icmp .le off, 3)) (ht : (pc : Int) + off = (tgt : Int)) (kt : x ≤ y → J l z X d mm a tgt L S μ Q) (kf : y < x → J l z X d mm a (pc + 3) L S μ Q) : J l z X d mm a pc L (jI y :: jI x :: S) μ Q := by
  intro D aC p e R s m args below meth c Φ hc he H locs cells slots ls ha
  obtain ⟨hH, hl, hLn, hLo, hSo⟩ := id ha
  have e9 := (j32_le hSo.2.1 hSo.1)
  refine lv_icmp_le hc.1 hc.2.1 hd ht (fun q => kt (by rw [e9] at q; omega) D aC p e R s m args below meth c Φ hc he H locs cells slots ls ⟨hH, hl, hLn, hLo, hSo.2.2⟩) (fun q => kf (by rw [e9] at q; omega) D aC p e R s m args below meth c Φ hc he H locs cells slots ls ⟨hH, hl, hLn, hLo, hSo.2.2⟩)
theorem J_goto {off : Int} {tgt : Nat} (hd : decode mm.2.1 pc = .ok (.goto off, 3)) (ht : (pc : Int) + off = (tgt : Int)) (k : J l z X d mm a tgt L S μ Q) : J l z X d mm a pc L S μ Q := by
  intro D aC p e R s m args below meth c Φ hc he H locs cells slots ls ha
  obtain ⟨hH, hl, hLn, hLo, hSo⟩ := id ha
  exact lv_goto hc.1 hc.2.1 hd ht (k D aC p e R s m args below meth c Φ hc he H locs cells slots ls ⟨hH, hl, hLn, hLo, hSo⟩)
theorem J_switch {dflt lo hi x : Int} {offs : Array Int} {len : Nat} {T : Nat → Nat} {tgt : Nat} (hd : decode mm.2.1 pc = .ok (.tableswitch dflt lo hi offs, len)) (ht : (pc : Int) + dflt = (tgt : Int)) (hT : ∀ k : Nat, lo + (k : Int) ≤ hi → ∃ off : Int, offs[k]? = some off ∧ (pc : Int) + off = (T k : Int))
    (kd : (x < lo ∨ hi < x) → J l z X d mm a tgt L S μ Q) (ki : ∀ k : Nat, lo + (k : Int) ≤ hi → x = lo + (k : Int) → J l z X d mm a (T k) L S μ Q) : J l z X d mm a pc L (jI x :: S) μ Q := by
  intro D aC p e R s m args below meth c Φ hc he H locs cells slots ls ha
  obtain ⟨hH, hl, hLn, hLo, hSo⟩ := id ha
  by_cases q : x < lo ∨ hi < x
  · exact lv_tableOut hc.1 hc.2.1 hd (by rw [j32 hSo.1]; exact q) ht (kd q D aC p e R s m args below meth c Φ hc he H locs cells slots ls ⟨hH, hl, hLn, hLo, hSo.2⟩)
  · have e9 : x = lo + ((x - lo).toNat : Int) := by omega
    obtain ⟨off, h1, h2⟩ := hT (x - lo).toNat (by omega)
    exact lv_tableIn hc.1 hc.2.1 hd (by rw [j32 hSo.1]; omega) (by rw [j32 hSo.1]; omega) (by rw [j32 hSo.1]; exact h1) h2 (ki (x - lo).toNat (by omega) e9 D aC p e R s m args below meth c Φ hc he H locs cells slots ls ⟨hH, hl, hLn, hLo, hSo.2⟩)
theorem J_vret (hd : decode mm.2.1 pc = .ok (.return_, 1)) (hr : mm.2.2.2.1 = none) (k : Q none μ) : J l z X d mm a pc L [] μ Q := fun D aC p e R s m args below meth c Φ hc he H locs cells slots ls ha => he none μ k a L H locs cells slots ls pc ha ⟨hr, hd⟩
theorem J_iret {x : Int} (hd : decode mm.2.1 pc = .ok (.ireturn, 1)) (hr : mm.2.2.2.1 = some .int) (k : Q (some (jI x)) μ) : J l z X d mm a pc L [jI x] μ Q := fun D aC p e R s m args below meth c Φ hc he H locs cells slots ls ha => he (some (jI x)) μ k a L H locs cells slots ls pc ha ⟨Or.inl hr, hd⟩
theorem J_zret {x : Int} (hd : decode mm.2.1 pc = .ok (.ireturn, 1)) (hr : mm.2.2.2.1 = some .boolean) (hx : x = 0 ∨ x = 1) (k : Q (some (jI x)) μ) : J l z X d mm a pc L [jI x] μ Q := fun D aC p e R s m args below meth c Φ hc he H locs cells slots ls ha => he (some (jI x)) μ k a L H locs cells slots ls pc ha ⟨Or.inr ⟨hr, hx⟩, hd⟩
theorem J_lret {x : Int} (hd : decode mm.2.1 pc = .ok (.lreturn, 1)) (hr : mm.2.2.2.1 = some .long) (k : Q (some (jL x)) μ) : J l z X d mm a pc L [jL x] μ Q := fun D aC p e R s m args below meth c Φ hc he H locs cells slots ls ha => he (some (jL x)) μ k a L H locs cells slots ls pc ha ⟨hr, hd⟩
/-- what the ranges say, for a proof that wants it -/
theorem J_known (k : jokL L → jokL S → jokM μ → J l z X d mm a pc L S μ Q) : J l z X d mm a pc L S μ Q := fun D aC p e R s m args below meth c Φ hc he H locs cells slots ls ha => k ha.2.2.2.1 ha.2.2.2.2 ha.1.2.2.2.2.2 D aC p e R s m args below meth c Φ hc he H locs cells slots ls ha
theorem J_mono {Q' : Option jV → jM → Prop} (h : ∀ r μ, Q' r μ → Q r μ) (k : J l z X d mm a pc L S μ Q') : J l z X d mm a pc L S μ Q := fun D aC p e R s m args below meth c Φ hc he H locs cells slots ls ha => k D aC p e R s m args below meth c Φ hc (fun r μ q => he r μ (h r μ q)) H locs cells slots ls ha
end RULES
end
section
/-! ## fields -/
/-- a class of the worlds: its number, its table, the words of its fields -/
def jCl (ci : Nat) (C : String) (T : u_T) (n : Nat) : Prop := vwCl[ci]? = some (C, T, n) ∧ (∀ w ∈ u_ws C T n, w ∈ jW) ∧ (∀ k, k < n → parseFieldDescriptor (T k).2.2.1 = some (jfty ci k)) ∧ (∀ a, a < n → ∀ b, b < n → a ≠ b → (T a).2.1 ≠ (T b).2.1) ∧ ∀ k, k < n → (T k).1 = C
theorem jfs_get {z ci n k : Nat} {rs : List (Option Nat)} {f : Int → Int} (hk : k < n) : ((List.range n).map (jfv z ci rs f))[k]? = some (jfv z ci rs f k) := by
  rw [List.getElem?_map, List.getElem?_range hk]; rfl
theorem jfs_set {z ci n k : Nat} {rs rs' : List (Option Nat)} {f f' : Int → Int} {v : Value} (hk : k < n) (hv : v = jfv z ci rs' f' k) (ho : ∀ j, j ≠ k → jfv z ci rs' f' j = jfv z ci rs f j) : ((List.range n).map (jfv z ci rs f)).set k v = (List.range n).map (jfv z ci rs' f') := by
  apply List.ext_getElem?
  intro j
  rw [List.getElem?_set]
  simp only [List.length_map, List.length_range, List.getElem?_map]
  by_cases hjk : k = j
  · subst hjk
    simp [hk, hv]
  · rw [if_neg hjk]
    by_cases hj : j < n
    · rw [List.getElem?_range hj]
      simp [ho j (fun e => hjk e.symm)]
    · simp [hj]
theorem jget0 {G : List jKd} {k : Nat} {kd : jKd} (h : G[k]? = some kd) : G.getD k (0, 0, []) = kd := by rw [List.getD_eq_getElem?_getD, h]; rfl
section HEAPR
variable {l : Launch} {z : Nat} {X : jX} {d : Nat} {mm : jMt} {a : Nat × Nat} {pc : Nat} {L S : List jV} {G : List jKd} {M : Nat → Int → Int} {Q : Option jV → jM → Prop}
/-- the heap's part behind a write into cell k -/
theorem jHp_put {D : va_G} {aC : Nat → ClassId} {R : Room} {s : State} {H1 : Heap} {H : Heap} {locs : List Loc} {cells slots k i : Nat} {kd kd' : jKd} {G' : List jKd} {M' : Nat → Int → Int} {E : va_E} (h : jHp z D aC R a s (G, M) H locs cells slots) (hk : G[k]? = some kd) (hE : va_at D vwCl (z + k, E) H1) (hz : H1.size = H.size) (ho : ∀ q : Nat, q ≠ z + k → H1[q]? = H[q]?) (hl : G'.length = G.length) (hk' : G'.getD k (0, 0, []) = kd') (h1 : E = jent z aC kd' (M' k)) (h2 : ∀ j, j ≠ k → G'.getD j (0, 0, []) = G.getD j (0, 0, []) ∧ M' j = M j) (hM : jokM (G', M')) : jHp z D aC R a s (G', M') H1 (locs ++ [⟨z + k, i⟩]) cells slots := by
  obtain ⟨hs, hP, hS, h4, h5, -⟩ := h
  have hP1 := hP.set jws_D (jws_get hk) hE ho
  rw [jws_set hl (by rw [hk']; exact h1) h2] at hP1
  refine ⟨?_, hP1, hS.put hz ho (Nat.le_add_right _ _), h4, h5, hM⟩
  rw [hz, hs]
  show z + G.length = z + G'.length
  rw [hl]
theorem J_getI {ci n index k h : Nat} {kz : Int} {rs : List (Option Nat)} {C : String} {T : u_T} (hcl : jCl ci C T n) (hd : decode mm.2.1 pc = .ok (.getfield index, 3)) (hw : Cond.fieldLink mm.1.cls index C (T k).2.1 (T k).2.2.1 ∈ jW) (hG : G[h]? = some (ci + 5, n, rs)) (hk : k < n) (hkz : (k : Int) = kz) (hr : jisref (jfty ci k) = false) (kk : J l z X d mm a (pc + 3) L (jI (M h kz) :: S) (G, M) Q) : J l z X d mm a pc L (jR h :: S) (G, M) Q := by
  intro D aC p e R s m args below meth c Φ hc he H locs cells slots ls ha
  obtain ⟨hH, hl, hLn, hLo, hSo⟩ := id ha
  obtain ⟨hHs, hP, hS, hcl0, hsl0, hM⟩ := id hH
  subst hkz
  obtain ⟨c1, c2, c3, c4, c5⟩ := hcl
  refine va_get (Ts := jW) (D := D) (v := .int (Int32.ofInt (M h k))) hc.1 hc.2.1 hc.2.2.2.2.2.2.2.1 c2 hc.2.2.2.2.2.1 hc.2.2.2.2.2.2.2.2.1.2 hP h (jws_get hG) c1 k hk (hc.2.2.2.2.2.2.2.1 _ hw) (by rw [c5 k hk]; exact fun _ h9 => h9) (by rw [jfs_get hk]; simp [jfv, hr]) hd ?_
  exact kk D aC p e R s m args below meth c Φ hc he H locs cells slots ls ⟨hH, hl, hLn, hLo, jokM_int hM (k := h) hG (by show ci + 5 ≠ 1; omega) _, hSo.2⟩
theorem J_getR {h' : Nat} {ci n index k h : Nat} {rs : List (Option Nat)} {C : String} {T : u_T} (hcl : jCl ci C T n) (hd : decode mm.2.1 pc = .ok (.getfield index, 3)) (hw : Cond.fieldLink mm.1.cls index C (T k).2.1 (T k).2.2.1 ∈ jW) (hG : G[h]? = some (ci + 5, n, rs)) (hk : k < n) (hr : jisref (jfty ci k) = true) (hrs : rs[k]? = some (some h')) (kk : J l z X d mm a (pc + 3) L (jR h' :: S) (G, M) Q) : J l z X d mm a pc L (jR h :: S) (G, M) Q := by
  intro D aC p e R s m args below meth c Φ hc he H locs cells slots ls ha
  obtain ⟨hH, hl, hLn, hLo, hSo⟩ := id ha
  obtain ⟨hHs, hP, hS, hcl0, hsl0, hM⟩ := id hH
  obtain ⟨c1, c2, c3, c4, c5⟩ := hcl
  refine va_get (Ts := jW) (D := D) (v := .ref (z + h')) hc.1 hc.2.1 hc.2.2.2.2.2.2.2.1 c2 hc.2.2.2.2.2.1 hc.2.2.2.2.2.2.2.2.1.2 hP h (jws_get hG) c1 k hk (hc.2.2.2.2.2.2.2.1 _ hw) (by rw [c5 k hk]; exact fun _ h9 => h9) (by rw [jfs_get hk]; simp [jfv, hr, jrf, va_rf, List.getD_eq_getElem?_getD, hrs]) hd ?_
  exact kk D aC p e R s m args below meth c Φ hc he H locs cells slots ls ⟨hH, hl, hLn, hLo, trivial, hSo.2⟩
theorem J_putI {x : Int} {ci n index k h : Nat} {kz : Int} {rs : List (Option Nat)} {C : String} {T : u_T} (hcl : jCl ci C T n) (hd : decode mm.2.1 pc = .ok (.putfield index, 3)) (hw : Cond.fieldLink mm.1.cls index C (T k).2.1 (T k).2.2.1 ∈ jW) (hG : G[h]? = some (ci + 5, n, rs)) (hk : k < n) (hkz : (k : Int) = kz) (hty : jfty ci k = .int) (hfin : (T k).2.2.2 = false) (kk : J l z X d mm a (pc + 3) L S (G, jupd M h kz x) Q) : J l z X d mm a pc L (jI x :: jR h :: S) (G, M) Q := by
  intro D aC p e R s m args below meth c Φ hc he H locs cells slots ls ha
  obtain ⟨hH, hl, hLn, hLo, hSo⟩ := id ha
  obtain ⟨hHs, hP, hS, hcl0, hsl0, hM⟩ := id hH
  subst hkz
  obtain ⟨c1, c2, c3, c4, c5⟩ := hcl
  have hap := va_apart (own := mm.1.cls) (Ts := jW) hc.2.2.2.2.2.2.2.1 c2 (jfty ci) c3 c4 hc.2.2.2.2.2.2.2.2.1.2 c1
  obtain ⟨r0, h1, cell, q1, q2, q3, q4⟩ := hP h _ (jws_get hG)
  have hr0 : r0 = (C, T, n) := Option.some.inj (h1.symm.trans c1)
  subst hr0
  obtain ⟨hSl, hfc, kC, hkC, hkind⟩ := (hc.2.2.2.2.2.2.2.2.1.2).1 ci _ c1
  obtain ⟨cf, kf, fi, f, hi, hsl⟩ := hSl k hk
  have hlay := hc.2.2.2.2.2.2.2.1 _ (c2 _ (u_in_lay hk))
  unfold u_lay at hlay
  rw [if_neg (by rw [hfin]; decide)] at hlay
  have hr : jisref (jfty ci k) = false := by rw [hty]; rfl
  have hst := (u_facts hfc hkC (u_lays (ws := jW) (args := args) hc.2.2.2.2.2.2.2.1 c2 hk) hi).1
  have hi' : s.fieldFound? C (T k).2.1 (T k).2.2.1 = some (cf, kf, fi, f) := by rw [← hi]; show _ = s.fieldFound? (T k).1 _ _; rw [c5 k hk]
  have h6 := u_store (v := .int (Int32.ofInt x)) hfc hkC hkind hlay hi ((c3 k hk).trans (congrArg some hty)) (by rfl) (by rfl)
  refine W.putK hc.1 hc.2.1 (f := f) ⟨hc.2.2.2.2.2.1, (hc.2.2.2.2.2.2.2.1 _ hw), ⟨_, _, _, hi'⟩, hst⟩ (by rw [q2]; exact h6) q1 q3 (by rw [hsl]; exact k2_hasslot (q4 k hk)) rfl rfl hd fun H1 e1 e2 e3 => ?_
  rw [hsl] at e1 ⊢
  have hE : va_at D vwCl (z + h, Sum.inr (ci, ((List.range n).map (jfv z ci rs (M h))).set k (.int (Int32.ofInt x)))) H1 := ⟨_, c1, t_OB.to (V := updV (vp_V ((List.range n).map (jfv z ci rs (M h)))) k (.int (Int32.ofInt x))) ⟨_, e1, q2, q3, t_set q4 hap hk _⟩ (fun j _ => vp_updV_set (by simpa using hk) _ j)⟩
  have hH1 := jHp_put (i := D.2 ci k) (G' := G) (M' := jupd M h k x) (kd' := (ci + 5, n, rs)) hH hG hE e2 e3 rfl (jget0 hG) (by
    show Sum.inr (ci, _) = Sum.inr (ci, _)
    rw [jfs_set hk (rs' := rs) (f' := jupd M h k x h) (by simp [jfv, hr, jupd]) (fun j hj => by simp [jfv, jupd, show ¬ (j : Int) = (k : Int) by omega])]) (fun j hj => ⟨rfl, jupd_ne M _ _ hj⟩) (jokM_upd hM hG ⟨fun q => absurd q (by show ci + 5 ≠ 1; omega), fun _ => hSo.1⟩)
  exact kk D aC p e R s m args below meth c Φ hc he H1 _ cells slots ls ⟨hH1, hl, hLn, hLo, hSo.2.2⟩
theorem J_putZ {x : Int} {ci n index k h : Nat} {kz : Int} {rs : List (Option Nat)} {C : String} {T : u_T} (hcl : jCl ci C T n) (hd : decode mm.2.1 pc = .ok (.putfield index, 3)) (hw : Cond.fieldLink mm.1.cls index C (T k).2.1 (T k).2.2.1 ∈ jW) (hG : G[h]? = some (ci + 5, n, rs)) (hk : k < n) (hkz : (k : Int) = kz) (hty : jfty ci k = .boolean) (hfin : (T k).2.2.2 = false) (hx : x = 0 ∨ x = 1) (kk : J l z X d mm a (pc + 3) L S (G, jupd M h kz x) Q) : J l z X d mm a pc L (jI x :: jR h :: S) (G, M) Q := by
  intro D aC p e R s m args below meth c Φ hc he H locs cells slots ls ha
  obtain ⟨hH, hl, hLn, hLo, hSo⟩ := id ha
  obtain ⟨hHs, hP, hS, hcl0, hsl0, hM⟩ := id hH
  subst hkz
  obtain ⟨c1, c2, c3, c4, c5⟩ := hcl
  have hap := va_apart (own := mm.1.cls) (Ts := jW) hc.2.2.2.2.2.2.2.1 c2 (jfty ci) c3 c4 hc.2.2.2.2.2.2.2.2.1.2 c1
  obtain ⟨r0, h1, cell, q1, q2, q3, q4⟩ := hP h _ (jws_get hG)
  have hr0 : r0 = (C, T, n) := Option.some.inj (h1.symm.trans c1)
  subst hr0
  obtain ⟨hSl, hfc, kC, hkC, hkind⟩ := (hc.2.2.2.2.2.2.2.2.1.2).1 ci _ c1
  obtain ⟨cf, kf, fi, f, hi, hsl⟩ := hSl k hk
  have hlay := hc.2.2.2.2.2.2.2.1 _ (c2 _ (u_in_lay hk))
  unfold u_lay at hlay
  rw [if_neg (by rw [hfin]; decide)] at hlay
  have hr : jisref (jfty ci k) = false := by rw [hty]; rfl
  have hst := (u_facts hfc hkC (u_lays (ws := jW) (args := args) hc.2.2.2.2.2.2.2.1 c2 hk) hi).1
  have hi' : s.fieldFound? C (T k).2.1 (T k).2.2.1 = some (cf, kf, fi, f) := by rw [← hi]; show _ = s.fieldFound? (T k).1 _ _; rw [c5 k hk]
  have h6 := u_store (v := .int (Int32.ofInt x)) hfc hkC hkind hlay hi ((c3 k hk).trans (congrArg some hty)) (by rcases hx with rfl | rfl <;> decide +kernel) (by rcases hx with rfl | rfl <;> decide +kernel)
  refine W.putK hc.1 hc.2.1 (f := f) ⟨hc.2.2.2.2.2.1, (hc.2.2.2.2.2.2.2.1 _ hw), ⟨_, _, _, hi'⟩, hst⟩ (by rw [q2]; exact h6) q1 q3 (by rw [hsl]; exact k2_hasslot (q4 k hk)) rfl rfl hd fun H1 e1 e2 e3 => ?_
  rw [hsl] at e1 ⊢
  have hE : va_at D vwCl (z + h, Sum.inr (ci, ((List.range n).map (jfv z ci rs (M h))).set k (.int (Int32.ofInt x)))) H1 := ⟨_, c1, t_OB.to (V := updV (vp_V ((List.range n).map (jfv z ci rs (M h)))) k (.int (Int32.ofInt x))) ⟨_, e1, q2, q3, t_set q4 hap hk _⟩ (fun j _ => vp_updV_set (by simpa using hk) _ j)⟩
  have hH1 := jHp_put (i := D.2 ci k) (G' := G) (M' := jupd M h k x) (kd' := (ci + 5, n, rs)) hH hG hE e2 e3 rfl (jget0 hG) (by
    show Sum.inr (ci, _) = Sum.inr (ci, _)
    rw [jfs_set hk (rs' := rs) (f' := jupd M h k x h) (by simp [jfv, hr, jupd]) (fun j hj => by simp [jfv, jupd, show ¬ (j : Int) = (k : Int) by omega])]) (fun j hj => ⟨rfl, jupd_ne M _ _ hj⟩) (jokM_upd hM hG ⟨fun q => absurd q (by show ci + 5 ≠ 1; omega), fun _ => hSo.1⟩)
  exact kk D aC p e R s m args below meth c Φ hc he H1 _ cells slots ls ⟨hH1, hl, hLn, hLo, hSo.2.2⟩
theorem J_putF {h' : Nat} {ci n index k h : Nat} {rs : List (Option Nat)} {C : String} {T : u_T} (hcl : jCl ci C T n) (hd : decode mm.2.1 pc = .ok (.putfield index, 3)) (hw : Cond.fieldLink mm.1.cls index C (T k).2.1 (T k).2.2.1 ∈ jW) (hG : G[h]? = some (ci + 5, n, rs)) (hk : k < n) (hrl : k < rs.length) (hty : jisref (jfty ci k) = true) (hfin : (T k).2.2.2 = true) (hini : mm.1.name = "<init>") (hown : mm.1.cls = C) (kk : J l z X d mm a (pc + 3) L S (G.set h (ci + 5, n, rs.set k (some h')), M) Q) : J l z X d mm a pc L (jR h' :: jR h :: S) (G, M) Q := by
  intro D aC p e R s m args below meth c Φ hc he H locs cells slots ls ha
  obtain ⟨hH, hl, hLn, hLo, hSo⟩ := id ha
  obtain ⟨hHs, hP, hS, hcl0, hsl0, hM⟩ := id hH
  obtain ⟨c1, c2, c3, c4, c5⟩ := hcl
  have hap := va_apart (own := mm.1.cls) (Ts := jW) hc.2.2.2.2.2.2.2.1 c2 (jfty ci) c3 c4 hc.2.2.2.2.2.2.2.2.1.2 c1
  obtain ⟨r0, h1, cell, q1, q2, q3, q4⟩ := hP h _ (jws_get hG)
  have hr0 : r0 = (C, T, n) := Option.some.inj (h1.symm.trans c1)
  subst hr0
  obtain ⟨hSl, hfc, kC, hkC, hkind⟩ := (hc.2.2.2.2.2.2.2.2.1.2).1 ci _ c1
  obtain ⟨cf, kf, fi, f, hi, hsl⟩ := hSl k hk
  have hlay := hc.2.2.2.2.2.2.2.1 _ (c2 _ (u_in_lay hk))
  unfold u_lay at hlay
  rw [if_pos hfin] at hlay
  have hst := (u_facts hfc hkC (u_lays (ws := jW) (args := args) hc.2.2.2.2.2.2.2.1 c2 hk) hi).1
  have hi' : s.fieldFound? C (T k).2.1 (T k).2.2.1 = some (cf, kf, fi, f) := by rw [← hi]; show _ = s.fieldFound? (T k).1 _ _; rw [c5 k hk]
  have hcf : m.cls = cf := by
    obtain ⟨_, _, c', _, _, _, -, -, hf', -, -, -, hown2, -⟩ := Cond.laysFinal_spec hlay
    have e1 : c' = cf := by have := hi.symm.trans hf'; simp at this; exact this.1.symm
    rw [c5 k hk, ← hown] at hown2
    rw [← e1]; exact Option.some.inj (hc.2.2.2.2.2.1.symm.trans hown2)
  have hfit : narrow (jfty ci k) (.ref (z + h')) = .ref (z + h') ∧ fits (jfty ci k) (.ref (z + h')) = true := by
    revert hty
    generalize jfty ci k = ty
    intro hty
    cases ty <;> first | exact ⟨rfl, rfl⟩ | (simp [jisref] at hty)
  have h6 := u_fits (v := .ref (z + h')) hfc hkC hkind (Or.inr hlay) hi (c3 k hk) hfit.1 hfit.2
  refine W.putFinK hc.1 hc.2.1 hc.2.2.2.2.2.1 (hc.2.2.2.2.2.2.2.1 _ hw) hi' hst hcf (hc.2.2.2.2.2.2.1.trans hini) (by rw [q2]; exact h6) q1 q3 (by rw [hsl]; exact k2_hasslot (q4 k hk)) rfl rfl hd fun H1 e1 e2 e3 => ?_
  rw [hsl] at e1 ⊢
  have hE : va_at D vwCl (z + h, Sum.inr (ci, ((List.range n).map (jfv z ci rs (M h))).set k (.ref (z + h')))) H1 := ⟨_, c1, t_OB.to (V := updV (vp_V ((List.range n).map (jfv z ci rs (M h)))) k (.ref (z + h'))) ⟨_, e1, q2, q3, t_set q4 hap hk _⟩ (fun j _ => vp_updV_set (by simpa using hk) _ j)⟩
  have hl0 := (List.getElem?_eq_some_iff.mp hG).1
  have hG1 : (G.set h (ci + 5, n, rs.set k (some h'))).getD h (0, 0, []) = (ci + 5, n, rs.set k (some h')) := jget0 (by rw [List.getElem?_set_self hl0])
  have hG2 : ∀ j, j ≠ h → (G.set h (ci + 5, n, rs.set k (some h'))).getD j (0, 0, []) = G.getD j (0, 0, []) := fun j hj => by rw [List.getD_eq_getElem?_getD, List.getD_eq_getElem?_getD, List.getElem?_set_ne (Ne.symm hj)]
  have hH1 := jHp_put (i := D.2 ci k) (G' := G.set h (ci + 5, n, rs.set k (some h'))) (M' := M) (kd' := (ci + 5, n, rs.set k (some h'))) hH hG hE e2 e3 (List.length_set) hG1 (by
    show Sum.inr (ci, _) = Sum.inr (ci, _)
    rw [jfs_set hk (rs' := rs.set k (some h')) (f' := M h) (by simp [jfv, hty, jrf, va_rf, List.getD_eq_getElem?_getD, hrl]) (fun j hj => by simp [jfv, jrf, List.getD_eq_getElem?_getD, List.getElem?_set_ne (Ne.symm hj)])]) (fun j hj => ⟨hG2 j hj, rfl⟩) (by
    intro k' j
    have h9 : jlen (G.set h (ci + 5, n, rs.set k (some h'))) k' = jlen G k' := by
      unfold jlen
      by_cases hkh : k' = h
      · subst hkh; rw [hG1, jget0 hG]
      · rw [hG2 k' hkh]
    dsimp only
    rw [h9, List.length_set]
    exact hM k' j)
  exact kk D aC p e R s m args below meth c Φ hc he H1 _ cells slots ls ⟨hH1, hl, hLn, hLo, hSo.2.2⟩
theorem J_getIN {ci n index k h : Nat} {kz : Int} {rs : List (Option Nat)} {C : String} {T : u_T} (hcl : jCl ci C T n) (hd : decode mm.2.1 pc = .ok (.getfield index, 3)) {host : String} (hw : Cond.fieldLinkNest mm.1.cls index C (T k).2.1 (T k).2.2.1 host ∈ jNW) (hG : G[h]? = some (ci + 5, n, rs)) (hk : k < n) (hkz : (k : Int) = kz) (hr : jisref (jfty ci k) = false) (kk : J l z X d mm a (pc + 3) L (jI (M h kz) :: S) (G, M) Q) : J l z X d mm a pc L (jR h :: S) (G, M) Q := by
  intro D aC p e R s m args below meth c Φ hc he H locs cells slots ls ha
  obtain ⟨hH, hl, hLn, hLo, hSo⟩ := id ha
  obtain ⟨hHs, hP, hS, hcl0, hsl0, hM⟩ := id hH
  subst hkz
  obtain ⟨c1, c2, c3, c4, c5⟩ := hcl
  refine va_getN (Ts := jW) (D := D) (v := .int (Int32.ofInt (M h k))) hc.1 hc.2.1 hc.2.2.2.2.2.2.2.1 c2 hc.2.2.2.2.2.1 hc.2.2.2.2.2.2.2.2.1.2 hP h (jws_get hG) c1 k hk (va_Nw.use rfl (hc.2.2.2.2.2.2.2.2.1.1 _ hw)) (by rw [c5 k hk]; exact fun _ h9 => h9) (by rw [jfs_get hk]; simp [jfv, hr]) hd ?_
  exact kk D aC p e R s m args below meth c Φ hc he H locs cells slots ls ⟨hH, hl, hLn, hLo, jokM_int hM (k := h) hG (by show ci + 5 ≠ 1; omega) _, hSo.2⟩
theorem J_getRN {h' : Nat} {ci n index k h : Nat} {rs : List (Option Nat)} {C : String} {T : u_T} (hcl : jCl ci C T n) (hd : decode mm.2.1 pc = .ok (.getfield index, 3)) {host : String} (hw : Cond.fieldLinkNest mm.1.cls index C (T k).2.1 (T k).2.2.1 host ∈ jNW) (hG : G[h]? = some (ci + 5, n, rs)) (hk : k < n) (hr : jisref (jfty ci k) = true) (hrs : rs[k]? = some (some h')) (kk : J l z X d mm a (pc + 3) L (jR h' :: S) (G, M) Q) : J l z X d mm a pc L (jR h :: S) (G, M) Q := by
  intro D aC p e R s m args below meth c Φ hc he H locs cells slots ls ha
  obtain ⟨hH, hl, hLn, hLo, hSo⟩ := id ha
  obtain ⟨hHs, hP, hS, hcl0, hsl0, hM⟩ := id hH
  obtain ⟨c1, c2, c3, c4, c5⟩ := hcl
  refine va_getN (Ts := jW) (D := D) (v := .ref (z + h')) hc.1 hc.2.1 hc.2.2.2.2.2.2.2.1 c2 hc.2.2.2.2.2.1 hc.2.2.2.2.2.2.2.2.1.2 hP h (jws_get hG) c1 k hk (va_Nw.use rfl (hc.2.2.2.2.2.2.2.2.1.1 _ hw)) (by rw [c5 k hk]; exact fun _ h9 => h9) (by rw [jfs_get hk]; simp [jfv, hr, jrf, va_rf, List.getD_eq_getElem?_getD, hrs]) hd ?_
  exact kk D aC p e R s m args below meth c Φ hc he H locs cells slots ls ⟨hH, hl, hLn, hLo, trivial, hSo.2⟩
theorem J_putIN {x : Int} {ci n index k h : Nat} {kz : Int} {rs : List (Option Nat)} {C : String} {T : u_T} (hcl : jCl ci C T n) (hd : decode mm.2.1 pc = .ok (.putfield index, 3)) {host : String} (hw : Cond.fieldLinkNest mm.1.cls index C (T k).2.1 (T k).2.2.1 host ∈ jNW) (hG : G[h]? = some (ci + 5, n, rs)) (hk : k < n) (hkz : (k : Int) = kz) (hty : jfty ci k = .int) (hfin : (T k).2.2.2 = false) (kk : J l z X d mm a (pc + 3) L S (G, jupd M h kz x) Q) : J l z X d mm a pc L (jI x :: jR h :: S) (G, M) Q := by
  intro D aC p e R s m args below meth c Φ hc he H locs cells slots ls ha
  obtain ⟨hH, hl, hLn, hLo, hSo⟩ := id ha
  obtain ⟨hHs, hP, hS, hcl0, hsl0, hM⟩ := id hH
  subst hkz
  obtain ⟨c1, c2, c3, c4, c5⟩ := hcl
  have hap := va_apart (own := mm.1.cls) (Ts := jW) hc.2.2.2.2.2.2.2.1 c2 (jfty ci) c3 c4 hc.2.2.2.2.2.2.2.2.1.2 c1
  obtain ⟨r0, h1, cell, q1, q2, q3, q4⟩ := hP h _ (jws_get hG)
  have hr0 : r0 = (C, T, n) := Option.some.inj (h1.symm.trans c1)
  subst hr0
  obtain ⟨hSl, hfc, kC, hkC, hkind⟩ := (hc.2.2.2.2.2.2.2.2.1.2).1 ci _ c1
  obtain ⟨cf, kf, fi, f, hi, hsl⟩ := hSl k hk
  have hlay := hc.2.2.2.2.2.2.2.1 _ (c2 _ (u_in_lay hk))
  unfold u_lay at hlay
  rw [if_neg (by rw [hfin]; decide)] at hlay
  have hr : jisref (jfty ci k) = false := by rw [hty]; rfl
  have hst := (u_facts hfc hkC (u_lays (ws := jW) (args := args) hc.2.2.2.2.2.2.2.1 c2 hk) hi).1
  have hi' : s.fieldFound? C (T k).2.1 (T k).2.2.1 = some (cf, kf, fi, f) := by rw [← hi]; show _ = s.fieldFound? (T k).1 _ _; rw [c5 k hk]
  have h6 := u_store (v := .int (Int32.ofInt x)) hfc hkC hkind hlay hi ((c3 k hk).trans (congrArg some hty)) (by rfl) (by rfl)
  refine va_WputK hc.1 hc.2.1 (f := f) hc.2.2.2.2.2.1 (va_Nw.use rfl (hc.2.2.2.2.2.2.2.2.1.1 _ hw)) hi' hst (by rw [q2]; exact h6) q1 q3 (by rw [hsl]; exact k2_hasslot (q4 k hk)) rfl rfl hd fun H1 e1 e2 e3 => ?_
  rw [hsl] at e1 ⊢
  have hE : va_at D vwCl (z + h, Sum.inr (ci, ((List.range n).map (jfv z ci rs (M h))).set k (.int (Int32.ofInt x)))) H1 := ⟨_, c1, t_OB.to (V := updV (vp_V ((List.range n).map (jfv z ci rs (M h)))) k (.int (Int32.ofInt x))) ⟨_, e1, q2, q3, t_set q4 hap hk _⟩ (fun j _ => vp_updV_set (by simpa using hk) _ j)⟩
  have hH1 := jHp_put (i := D.2 ci k) (G' := G) (M' := jupd M h k x) (kd' := (ci + 5, n, rs)) hH hG hE e2 e3 rfl (jget0 hG) (by
    show Sum.inr (ci, _) = Sum.inr (ci, _)
    rw [jfs_set hk (rs' := rs) (f' := jupd M h k x h) (by simp [jfv, hr, jupd]) (fun j hj => by simp [jfv, jupd, show ¬ (j : Int) = (k : Int) by omega])]) (fun j hj => ⟨rfl, jupd_ne M _ _ hj⟩) (jokM_upd hM hG ⟨fun q => absurd q (by show ci + 5 ≠ 1; omega), fun _ => hSo.1⟩)
  exact kk D aC p e R s m args below meth c Φ hc he H1 _ cells slots ls ⟨hH1, hl, hLn, hLo, hSo.2.2⟩
theorem J_putZN {x : Int} {ci n index k h : Nat} {kz : Int} {rs : List (Option Nat)} {C : String} {T : u_T} (hcl : jCl ci C T n) (hd : decode mm.2.1 pc = .ok (.putfield index, 3)) {host : String} (hw : Cond.fieldLinkNest mm.1.cls index C (T k).2.1 (T k).2.2.1 host ∈ jNW) (hG : G[h]? = some (ci + 5, n, rs)) (hk : k < n) (hkz : (k : Int) = kz) (hty : jfty ci k = .boolean) (hfin : (T k).2.2.2 = false) (hx : x = 0 ∨ x = 1) (kk : J l z X d mm a (pc + 3) L S (G, jupd M h kz x) Q) : J l z X d mm a pc L (jI x :: jR h :: S) (G, M) Q := by
  intro D aC p e R s m args below meth c Φ hc he H locs cells slots ls ha
  obtain ⟨hH, hl, hLn, hLo, hSo⟩ := id ha
  obtain ⟨hHs, hP, hS, hcl0, hsl0, hM⟩ := id hH
  subst hkz
  obtain ⟨c1, c2, c3, c4, c5⟩ := hcl
  have hap := va_apart (own := mm.1.cls) (Ts := jW) hc.2.2.2.2.2.2.2.1 c2 (jfty ci) c3 c4 hc.2.2.2.2.2.2.2.2.1.2 c1
  obtain ⟨r0, h1, cell, q1, q2, q3, q4⟩ := hP h _ (jws_get hG)
  have hr0 : r0 = (C, T, n) := Option.some.inj (h1.symm.trans c1)
  subst hr0
  obtain ⟨hSl, hfc, kC, hkC, hkind⟩ := (hc.2.2.2.2.2.2.2.2.1.2).1 ci _ c1
  obtain ⟨cf, kf, fi, f, hi, hsl⟩ := hSl k hk
  have hlay := hc.2.2.2.2.2.2.2.1 _ (c2 _ (u_in_lay hk))
  unfold u_lay at hlay
  rw [if_neg (by rw [hfin]; decide)] at hlay
  have hr : jisref (jfty ci k) = false := by rw [hty]; rfl
  have hst := (u_facts hfc hkC (u_lays (ws := jW) (args := args) hc.2.2.2.2.2.2.2.1 c2 hk) hi).1
  have hi' : s.fieldFound? C (T k).2.1 (T k).2.2.1 = some (cf, kf, fi, f) := by rw [← hi]; show _ = s.fieldFound? (T k).1 _ _; rw [c5 k hk]
  have h6 := u_store (v := .int (Int32.ofInt x)) hfc hkC hkind hlay hi ((c3 k hk).trans (congrArg some hty)) (by rcases hx with rfl | rfl <;> decide +kernel) (by rcases hx with rfl | rfl <;> decide +kernel)
  refine va_WputK hc.1 hc.2.1 (f := f) hc.2.2.2.2.2.1 (va_Nw.use rfl (hc.2.2.2.2.2.2.2.2.1.1 _ hw)) hi' hst (by rw [q2]; exact h6) q1 q3 (by rw [hsl]; exact k2_hasslot (q4 k hk)) rfl rfl hd fun H1 e1 e2 e3 => ?_
  rw [hsl] at e1 ⊢
  have hE : va_at D vwCl (z + h, Sum.inr (ci, ((List.range n).map (jfv z ci rs (M h))).set k (.int (Int32.ofInt x)))) H1 := ⟨_, c1, t_OB.to (V := updV (vp_V ((List.range n).map (jfv z ci rs (M h)))) k (.int (Int32.ofInt x))) ⟨_, e1, q2, q3, t_set q4 hap hk _⟩ (fun j _ => vp_updV_set (by simpa using hk) _ j)⟩
  have hH1 := jHp_put (i := D.2 ci k) (G' := G) (M' := jupd M h k x) (kd' := (ci + 5, n, rs)) hH hG hE e2 e3 rfl (jget0 hG) (by
    show Sum.inr (ci, _) = Sum.inr (ci, _)
    rw [jfs_set hk (rs' := rs) (f' := jupd M h k x h) (by simp [jfv, hr, jupd]) (fun j hj => by simp [jfv, jupd, show ¬ (j : Int) = (k : Int) by omega])]) (fun j hj => ⟨rfl, jupd_ne M _ _ hj⟩) (jokM_upd hM hG ⟨fun q => absurd q (by show ci + 5 ≠ 1; omega), fun _ => hSo.1⟩)
  exact kk D aC p e R s m args below meth c Φ hc he H1 _ cells slots ls ⟨hH1, hl, hLn, hLo, hSo.2.2⟩
theorem J_iald {n h : Nat} {i : Int} {rs : List (Option Nat)} (hd : decode mm.2.1 pc = .ok (.iaload, 1)) (hG : G[h]? = some (0, n, rs)) (h0 : 0 ≤ i) (h1 : i < n) (kk : J l z X d mm a (pc + 1) L (jI (M h i) :: S) (G, M) Q) : J l z X d mm a pc L (jI i :: jR h :: S) (G, M) Q := by
  intro D aC p e R s m args below meth c Φ hc he H locs cells slots ls ha
  obtain ⟨hH, hl, hLn, hLo, hSo⟩ := id ha
  obtain ⟨hHs, hP, hS, hcl0, hsl0, hM⟩ := id hH
  have hi : ((Int32.ofInt i).toNatClampNeg : Int) = i := by rw [j32_ix (n := n) h0 hSo.1]; exact Int.toNat_of_nonneg h0
  refine va_iald hc.1 hc.2.1 hc.2.2.2.2.2.2.2.2.1.2 hP h 0 (jws_get hG) rfl (j32_in h0 h1 hSo.1) hd ?_
  rw [hi]
  exact kk D aC p e R s m args below meth c Φ hc he H locs cells slots ls ⟨hH, hl, hLn, hLo, jokM_int hM (k := h) hG (show ¬ (0 : Nat) = 1 by decide) _, hSo.2.2⟩
theorem J_iast {n h : Nat} {i x : Int} {rs : List (Option Nat)} (hd : decode mm.2.1 pc = .ok (.iastore, 1)) (hG : G[h]? = some (0, n, rs)) (h0 : 0 ≤ i) (h1 : i < n) (kk : J l z X d mm a (pc + 1) L S (G, jupd M h i x) Q) : J l z X d mm a pc L (jI x :: jI i :: jR h :: S) (G, M) Q := by
  intro D aC p e R s m args below meth c Φ hc he H locs cells slots ls ha
  obtain ⟨hH, hl, hLn, hLo, hSo⟩ := id ha
  obtain ⟨hHs, hP, hS, hcl0, hsl0, hM⟩ := id hH
  have hi : ((Int32.ofInt i).toNatClampNeg : Int) = i := by rw [j32_ix (n := n) h0 hSo.2.1]; exact Int.toNat_of_nonneg h0
  have hin := j32_in h0 h1 hSo.2.1
  refine W.iast hc.1 hc.2.1 (hP h _ (jws_get hG)) (((hc.2.2.2.2.2.2.2.2.1.2).2 0 _ rfl).1 n (fun j => .int (Int32.ofInt (M h j)))) (fun q => by cases q) (by show ¬ (_ ∨ (arrV _ _ _).slots.size ≤ _); rw [arrV_size]; exact hin) rfl rfl hd fun H1 e1 e2 e3 => ?_
  have hE : va_at D vwCl (z + h, Sum.inl (aC 0, n, .inl (fun j => Int32.ofInt (jupd M h i x h j)))) H1 := by
    show H1[z + h]? = some (vp_cell _ _)
    rw [e1]
    show some (Cell.setSlot (arrV _ _ _) _ _) = _
    rw [vp_cell_i, arrV_store]
    congr 2
    funext q
    by_cases hq : q = (Int32.ofInt i).toNatClampNeg
    · subst hq
      simp [updV, jupd, hi]
    · have hq2 : ¬ (q : Int) = i := fun g => hq (by omega)
      simp [updV, jupd, hq, hq2]
  have hH1 := jHp_put (i := (Int32.ofInt i).toNatClampNeg) (G' := G) (M' := jupd M h i x) (kd' := (0, n, rs)) hH hG hE e2 e3 rfl (jget0 hG) rfl (fun j hj => ⟨rfl, jupd_ne M _ _ hj⟩) (jokM_upd hM hG ⟨fun q => absurd q (show ¬ (0 : Nat) = 1 by decide), fun _ => hSo.1⟩)
  exact kk D aC p e R s m args below meth c Φ hc he H1 _ cells slots ls ⟨hH1, hl, hLn, hLo, hSo.2.2.2⟩
theorem J_lald {n h : Nat} {i : Int} {rs : List (Option Nat)} (hd : decode mm.2.1 pc = .ok (.laload, 1)) (hG : G[h]? = some (1, n, rs)) (h0 : 0 ≤ i) (h1 : i < n) (kk : J l z X d mm a (pc + 1) L (jL (M h i) :: S) (G, M) Q) : J l z X d mm a pc L (jI i :: jR h :: S) (G, M) Q := by
  intro D aC p e R s m args below meth c Φ hc he H locs cells slots ls ha
  obtain ⟨hH, hl, hLn, hLo, hSo⟩ := id ha
  obtain ⟨hHs, hP, hS, hcl0, hsl0, hM⟩ := id hH
  have hi : ((Int32.ofInt i).toNatClampNeg : Int) = i := by rw [j32_ix (n := n) h0 hSo.1]; exact Int.toNat_of_nonneg h0
  refine va_lald hc.1 hc.2.1 hc.2.2.2.2.2.2.2.2.1.2 hP h 1 (jws_get hG) rfl (j32_in h0 h1 hSo.1) hd ?_
  rw [hi]
  exact kk D aC p e R s m args below meth c Φ hc he H locs cells slots ls ⟨hH, hl, hLn, hLo, jokM_long hM (k := h) hG (rfl) _, hSo.2.2⟩
theorem J_last {n h : Nat} {i x : Int} {rs : List (Option Nat)} (hd : decode mm.2.1 pc = .ok (.lastore, 1)) (hG : G[h]? = some (1, n, rs)) (h0 : 0 ≤ i) (h1 : i < n) (kk : J l z X d mm a (pc + 1) L S (G, jupd M h i x) Q) : J l z X d mm a pc L (jL x :: jI i :: jR h :: S) (G, M) Q := by
  intro D aC p e R s m args below meth c Φ hc he H locs cells slots ls ha
  obtain ⟨hH, hl, hLn, hLo, hSo⟩ := id ha
  obtain ⟨hHs, hP, hS, hcl0, hsl0, hM⟩ := id hH
  have hi : ((Int32.ofInt i).toNatClampNeg : Int) = i := by rw [j32_ix (n := n) h0 hSo.2.1]; exact Int.toNat_of_nonneg h0
  have hin := j32_in h0 h1 hSo.2.1
  refine W.last hc.1 hc.2.1 (hP h _ (jws_get hG)) (((hc.2.2.2.2.2.2.2.2.1.2).2 1 _ rfl).1 n (fun j => .long (Int64.ofInt (M h j)))) (fun q => by cases q) (by show ¬ (_ ∨ (arrV _ _ _).slots.size ≤ _); rw [arrV_size]; exact hin) rfl rfl hd fun H1 e1 e2 e3 => ?_
  have hE : va_at D vwCl (z + h, Sum.inl (aC 1, n, .inr (.inl (fun j => Int64.ofInt (jupd M h i x h j))))) H1 := by
    show H1[z + h]? = some (vp_cell _ _)
    rw [e1]
    show some (Cell.setSlot (arrV _ _ _) _ _) = _
    rw [vp_cell_l, arrV_store]
    congr 2
    funext q
    by_cases hq : q = (Int32.ofInt i).toNatClampNeg
    · subst hq
      simp [updV, jupd, hi]
    · have hq2 : ¬ (q : Int) = i := fun g => hq (by omega)
      simp [updV, jupd, hq, hq2]
  have hH1 := jHp_put (i := (Int32.ofInt i).toNatClampNeg) (G' := G) (M' := jupd M h i x) (kd' := (1, n, rs)) hH hG hE e2 e3 rfl (jget0 hG) rfl (fun j hj => ⟨rfl, jupd_ne M _ _ hj⟩) (jokM_upd hM hG ⟨fun _ => hSo.1, fun q => absurd rfl q⟩)
  exact kk D aC p e R s m args below meth c Φ hc he H1 _ cells slots ls ⟨hH1, hl, hLn, hLo, hSo.2.2.2⟩
theorem J_zald {n h : Nat} {i : Int} {rs : List (Option Nat)} (hd : decode mm.2.1 pc = .ok (.baload, 1)) (hG : G[h]? = some (2, n, rs)) (h0 : 0 ≤ i) (h1 : i < n) (kk : J l z X d mm a (pc + 1) L (jI (M h i) :: S) (G, M) Q) : J l z X d mm a pc L (jI i :: jR h :: S) (G, M) Q := by
  intro D aC p e R s m args below meth c Φ hc he H locs cells slots ls ha
  obtain ⟨hH, hl, hLn, hLo, hSo⟩ := id ha
  obtain ⟨hHs, hP, hS, hcl0, hsl0, hM⟩ := id hH
  have hi : ((Int32.ofInt i).toNatClampNeg : Int) = i := by rw [j32_ix (n := n) h0 hSo.1]; exact Int.toNat_of_nonneg h0
  refine va_zald hc.1 hc.2.1 hc.2.2.2.2.2.2.2.2.1.2 hP h 2 (jws_get hG) rfl (j32_in h0 h1 hSo.1) hd ?_
  rw [hi]
  exact kk D aC p e R s m args below meth c Φ hc he H locs cells slots ls ⟨hH, hl, hLn, hLo, jokM_int hM (k := h) hG (show ¬ (2 : Nat) = 1 by decide) _, hSo.2.2⟩
theorem J_zast {n h : Nat} {i x : Int} {rs : List (Option Nat)} (hd : decode mm.2.1 pc = .ok (.bastore, 1)) (hG : G[h]? = some (2, n, rs)) (h0 : 0 ≤ i) (h1 : i < n) (hx : x = 0 ∨ x = 1) (kk : J l z X d mm a (pc + 1) L S (G, jupd M h i x) Q) : J l z X d mm a pc L (jI x :: jI i :: jR h :: S) (G, M) Q := by
  intro D aC p e R s m args below meth c Φ hc he H locs cells slots ls ha
  obtain ⟨hH, hl, hLn, hLo, hSo⟩ := id ha
  obtain ⟨hHs, hP, hS, hcl0, hsl0, hM⟩ := id hH
  have hi : ((Int32.ofInt i).toNatClampNeg : Int) = i := by rw [j32_ix (n := n) h0 hSo.2.1]; exact Int.toNat_of_nonneg h0
  have hin := j32_in h0 h1 hSo.2.1
  refine W.zast hc.1 hc.2.1 (hP h _ (jws_get hG)) (((hc.2.2.2.2.2.2.2.2.1.2).2 2 _ rfl).1 n (fun j => .int (Int32.ofInt (M h j)))) (fun q => by cases q) (by show ¬ (_ ∨ (arrV _ _ _).slots.size ≤ _); rw [arrV_size]; exact hin) rfl rfl hd fun H1 e1 e2 e3 => ?_
  have hE : va_at D vwCl (z + h, Sum.inl (aC 2, n, .inl (fun j => Int32.ofInt (jupd M h i x h j)))) H1 := by
    show H1[z + h]? = some (vp_cell _ _)
    rw [show narrow .boolean (.int (Int32.ofInt x)) = .int (Int32.ofInt x) by rcases hx with rfl | rfl <;> decide +kernel] at e1
    rw [e1]
    show some (Cell.setSlot (arrV _ _ _) _ _) = _
    rw [vp_cell_i, arrV_store]
    congr 2
    funext q
    by_cases hq : q = (Int32.ofInt i).toNatClampNeg
    · subst hq
      simp [updV, jupd, hi]
    · have hq2 : ¬ (q : Int) = i := fun g => hq (by omega)
      simp [updV, jupd, hq, hq2]
  have hH1 := jHp_put (i := (Int32.ofInt i).toNatClampNeg) (G' := G) (M' := jupd M h i x) (kd' := (2, n, rs)) hH hG hE e2 e3 rfl (jget0 hG) rfl (fun j hj => ⟨rfl, jupd_ne M _ _ hj⟩) (jokM_upd hM hG ⟨fun q => absurd q (show ¬ (2 : Nat) = 1 by decide), fun _ => hSo.1⟩)
  exact kk D aC p e R s m args below meth c Φ hc he H1 _ cells slots ls ⟨hH1, hl, hLn, hLo, hSo.2.2.2⟩
theorem J_aald3 {n h h' : Nat} {i : Int} {rs : List (Option Nat)} (hd : decode mm.2.1 pc = .ok (.aaload, 1)) (hG : G[h]? = some (3, n, rs)) (h0 : 0 ≤ i) (h1 : i < n) (hrs : rs[i.toNat]? = some (some h')) (kk : J l z X d mm a (pc + 1) L (jR h' :: S) (G, M) Q) : J l z X d mm a pc L (jI i :: jR h :: S) (G, M) Q := by
  intro D aC p e R s m args below meth c Φ hc he H locs cells slots ls ha
  obtain ⟨hH, hl, hLn, hLo, hSo⟩ := id ha
  obtain ⟨hHs, hP, hS, hcl0, hsl0, hM⟩ := id hH
  have hi : (Int32.ofInt i).toNatClampNeg = i.toNat := j32_ix (n := n) h0 hSo.1
  have hin := j32_in h0 h1 hSo.1
  have hlt : (Int32.ofInt i).toNatClampNeg < n := Nat.not_le.mp fun q => hin (Or.inr q)
  refine W.aald (v := .ref (z + h')) (ty := (.array .int)) hc.1 hc.2.1 (hP h _ (jws_get hG)) (((hc.2.2.2.2.2.2.2.2.1.2).2 3 _ rfl).1 n (fun j => va_rf (jrf z rs j))) rfl (fun q => by cases q) (by show ¬ (_ ∨ (arrV _ _ _).slots.size ≤ _); rw [arrV_size]; exact hin) (by
    show (arrV _ _ _).slots[_]? = _
    rw [arrV_read _ _ hlt, hi]
    simp [jrf, va_rf, List.getD_eq_getElem?_getD, hrs]) rfl rfl hd ?_
  exact kk D aC p e R s m args below meth c Φ hc he H locs cells slots ls ⟨hH, hl, hLn, hLo, trivial, hSo.2.2⟩
theorem J_aald4 {n h h' : Nat} {i : Int} {rs : List (Option Nat)} (hd : decode mm.2.1 pc = .ok (.aaload, 1)) (hG : G[h]? = some (4, n, rs)) (h0 : 0 ≤ i) (h1 : i < n) (hrs : rs[i.toNat]? = some (some h')) (kk : J l z X d mm a (pc + 1) L (jR h' :: S) (G, M) Q) : J l z X d mm a pc L (jI i :: jR h :: S) (G, M) Q := by
  intro D aC p e R s m args below meth c Φ hc he H locs cells slots ls ha
  obtain ⟨hH, hl, hLn, hLo, hSo⟩ := id ha
  obtain ⟨hHs, hP, hS, hcl0, hsl0, hM⟩ := id hH
  have hi : (Int32.ofInt i).toNatClampNeg = i.toNat := j32_ix (n := n) h0 hSo.1
  have hin := j32_in h0 h1 hSo.1
  have hlt : (Int32.ofInt i).toNatClampNeg < n := Nat.not_le.mp fun q => hin (Or.inr q)
  refine W.aald (v := .ref (z + h')) (ty := (.object RX2)) hc.1 hc.2.1 (hP h _ (jws_get hG)) (((hc.2.2.2.2.2.2.2.2.1.2).2 4 _ rfl).1 n (fun j => va_rf (jrf z rs j))) rfl (fun q => by cases q) (by show ¬ (_ ∨ (arrV _ _ _).slots.size ≤ _); rw [arrV_size]; exact hin) (by
    show (arrV _ _ _).slots[_]? = _
    rw [arrV_read _ _ hlt, hi]
    simp [jrf, va_rf, List.getD_eq_getElem?_getD, hrs]) rfl rfl hd ?_
  exact kk D aC p e R s m args below meth c Φ hc he H locs cells slots ls ⟨hH, hl, hLn, hLo, trivial, hSo.2.2⟩
theorem J_alen0 {n h : Nat} {rs : List (Option Nat)} (hd : decode mm.2.1 pc = .ok (.arraylength, 1)) (hG : G[h]? = some (0, n, rs)) (hn : n < 2147483648) (kk : J l z X d mm a (pc + 1) L (jI n :: S) (G, M) Q) : J l z X d mm a pc L (jR h :: S) (G, M) Q := by
  intro D aC p e R s m args below meth c Φ hc he H locs cells slots ls ha
  obtain ⟨hH, hl, hLn, hLo, hSo⟩ := id ha
  obtain ⟨hHs, hP, hS, hcl0, hsl0, hM⟩ := id hH
  refine va_alen (v := Int32.ofInt n) hc.1 hc.2.1 hc.2.2.2.2.2.2.2.2.1.2 hP h 0 (jws_get hG) rfl (by show Int32.ofNat n = _; rfl) hd ?_
  exact kk D aC p e R s m args below meth c Φ hc he H locs cells slots ls ⟨hH, hl, hLn, hLo, ⟨by omega, by omega⟩, hSo.2⟩
theorem J_alen1 {n h : Nat} {rs : List (Option Nat)} (hd : decode mm.2.1 pc = .ok (.arraylength, 1)) (hG : G[h]? = some (1, n, rs)) (hn : n < 2147483648) (kk : J l z X d mm a (pc + 1) L (jI n :: S) (G, M) Q) : J l z X d mm a pc L (jR h :: S) (G, M) Q := by
  intro D aC p e R s m args below meth c Φ hc he H locs cells slots ls ha
  obtain ⟨hH, hl, hLn, hLo, hSo⟩ := id ha
  obtain ⟨hHs, hP, hS, hcl0, hsl0, hM⟩ := id hH
  refine va_alen (v := Int32.ofInt n) hc.1 hc.2.1 hc.2.2.2.2.2.2.2.2.1.2 hP h 1 (jws_get hG) rfl (by show Int32.ofNat n = _; rfl) hd ?_
  exact kk D aC p e R s m args below meth c Φ hc he H locs cells slots ls ⟨hH, hl, hLn, hLo, ⟨by omega, by omega⟩, hSo.2⟩
theorem J_alen2 {n h : Nat} {rs : List (Option Nat)} (hd : decode mm.2.1 pc = .ok (.arraylength, 1)) (hG : G[h]? = some (2, n, rs)) (hn : n < 2147483648) (kk : J l z X d mm a (pc + 1) L (jI n :: S) (G, M) Q) : J l z X d mm a pc L (jR h :: S) (G, M) Q := by
  intro D aC p e R s m args below meth c Φ hc he H locs cells slots ls ha
  obtain ⟨hH, hl, hLn, hLo, hSo⟩ := id ha
  obtain ⟨hHs, hP, hS, hcl0, hsl0, hM⟩ := id hH
  refine va_alen (v := Int32.ofInt n) hc.1 hc.2.1 hc.2.2.2.2.2.2.2.2.1.2 hP h 2 (jws_get hG) rfl (by show Int32.ofNat n = _; rfl) hd ?_
  exact kk D aC p e R s m args below meth c Φ hc he H locs cells slots ls ⟨hH, hl, hLn, hLo, ⟨by omega, by omega⟩, hSo.2⟩
theorem J_alen3 {n h : Nat} {rs : List (Option Nat)} (hd : decode mm.2.1 pc = .ok (.arraylength, 1)) (hG : G[h]? = some (3, n, rs)) (hn : n < 2147483648) (kk : J l z X d mm a (pc + 1) L (jI n :: S) (G, M) Q) : J l z X d mm a pc L (jR h :: S) (G, M) Q := by
  intro D aC p e R s m args below meth c Φ hc he H locs cells slots ls ha
  obtain ⟨hH, hl, hLn, hLo, hSo⟩ := id ha
  obtain ⟨hHs, hP, hS, hcl0, hsl0, hM⟩ := id hH
  refine va_alen (v := Int32.ofInt n) hc.1 hc.2.1 hc.2.2.2.2.2.2.2.2.1.2 hP h 3 (jws_get hG) rfl (by show Int32.ofNat n = _; rfl) hd ?_
  exact kk D aC p e R s m args below meth c Φ hc he H locs cells slots ls ⟨hH, hl, hLn, hLo, ⟨by omega, by omega⟩, hSo.2⟩
theorem J_alen4 {n h : Nat} {rs : List (Option Nat)} (hd : decode mm.2.1 pc = .ok (.arraylength, 1)) (hG : G[h]? = some (4, n, rs)) (hn : n < 2147483648) (kk : J l z X d mm a (pc + 1) L (jI n :: S) (G, M) Q) : J l z X d mm a pc L (jR h :: S) (G, M) Q := by
  intro D aC p e R s m args below meth c Φ hc he H locs cells slots ls ha
  obtain ⟨hH, hl, hLn, hLo, hSo⟩ := id ha
  obtain ⟨hHs, hP, hS, hcl0, hsl0, hM⟩ := id hH
  refine va_alen (v := Int32.ofInt n) hc.1 hc.2.1 hc.2.2.2.2.2.2.2.2.1.2 hP h 4 (jws_get hG) rfl (by show Int32.ofNat n = _; rfl) hd ?_
  exact kk D aC p e R s m args below meth c Φ hc he H locs cells slots ls ⟨hH, hl, hLn, hLo, ⟨by omega, by omega⟩, hSo.2⟩
theorem J_sld {i : Int} (hd : decode mm.2.1 pc = .ok (.iaload, 1)) (hsc : mm.2.2.2.2 = true) (h0 : 0 ≤ i) (h1 : i < X.2.1) (hx : jIn (X.2.2 i.toNat)) (kk : J l z X d mm a (pc + 1) L (jI (X.2.2 i.toNat) :: S) (G, M) Q) : J l z X d mm a pc L (jI i :: jS :: S) (G, M) Q := by
  intro D aC p e R s m args below meth c Φ hc he H locs cells slots ls ha
  obtain ⟨hH, hl, hLn, hLo, hSo⟩ := id ha
  obtain ⟨hHs, hP, hS, hcl0, hsl0, hM⟩ := id hH
  obtain ⟨g1, g2, g3⟩ := hc.2.2.2.2.2.2.2.2.2.2.2.2 hsc
  have hz := hc.2.2.2.2.2.2.2.2.2.2.2.1
  refine va_sld hc.1 hc.2.1 g1 (Nat.lt_of_lt_of_le g2 hz) (Nat.not_le.mpr g2) hS (j32_in h0 h1 hSo.1) hd ?_
  rw [j32_ix (n := X.2.1) h0 hSo.1]
  exact kk D aC p e R s m args below meth c Φ hc he H locs cells slots ls ⟨hH, hl, hLn, hLo, hx, hSo.2.2⟩
theorem J_slen (hd : decode mm.2.1 pc = .ok (.arraylength, 1)) (hsc : mm.2.2.2.2 = true) (kk : J l z X d mm a (pc + 1) L (jI X.2.1 :: S) (G, M) Q) : J l z X d mm a pc L (jS :: S) (G, M) Q := by
  intro D aC p e R s m args below meth c Φ hc he H locs cells slots ls ha
  obtain ⟨hH, hl, hLn, hLo, hSo⟩ := id ha
  obtain ⟨hHs, hP, hS, hcl0, hsl0, hM⟩ := id hH
  obtain ⟨g1, g2, g3⟩ := hc.2.2.2.2.2.2.2.2.2.2.2.2 hsc
  have hz := hc.2.2.2.2.2.2.2.2.2.2.2.1
  refine va_slen hc.1 hc.2.1 g1 (Nat.lt_of_lt_of_le g2 hz) (Nat.not_le.mpr g2) hS hd ?_
  exact kk D aC p e R s m args below meth c Φ hc he H locs cells slots ls ⟨hH, hl, hLn, hLo, ⟨by omega, by omega⟩, hSo.2⟩
end HEAPR
end
section
/-! ## calls: a method's J gives its contract; a contract is used at a call -/
def jpad : List jV → List jV
  | [] => []
  | .inr (.inl x) :: t => jL x :: jN :: jpad t
  | v :: t => v :: jpad t
theorem jpad_lg {z : Nat} {X : jX} : ∀ vs : List jV, (lg_sl (vs.map (jval z X))).length = (jpad vs).length
  | [] => rfl
  | .inl x :: t => congrArg (· + 1) (jpad_lg t)
  | .inr (.inl x) :: t => congrArg (· + 2) (jpad_lg t)
  | .inr (.inr none) :: t => congrArg (· + 1) (jpad_lg t)
  | .inr (.inr (some none)) :: t => congrArg (· + 1) (jpad_lg t)
  | .inr (.inr (some (some h))) :: t => congrArg (· + 1) (jpad_lg t)
theorem jlv_rep {z : Nat} {X : jX} {q : Nat × Value} : ∀ (n off : Nat), ¬ q ∈ jlv z X off (List.replicate n jN)
  | 0, off, h => by simp [jlv] at h
  | n + 1, off, h => by
    rw [List.replicate_succ] at h
    rcases jlv_cons.mp h with ⟨h, -⟩ | h
    · exact h rfl
    · exact jlv_rep n _ h
theorem jlv_pad {z : Nat} {X : jX} {q : Nat × Value} {n : Nat} : ∀ (vs : List jV) (off : Nat), q ∈ jlv z X off (jpad vs ++ List.replicate n jN) → q ∈ lv_args off (vs.map (jval z X))
  | [], off, h => absurd h (jlv_rep n off)
  | .inl x :: t, off, h => by
    rcases jlv_cons.mp (show q ∈ jlv z X off (jI x :: (jpad t ++ List.replicate n jN)) from h) with ⟨-, h⟩ | h
    · rw [h]; exact List.mem_cons_self
    · exact List.mem_cons_of_mem _ (jlv_pad t (off + 1) h)
  | .inr (.inl x) :: t, off, h => by
    rcases jlv_cons.mp (show q ∈ jlv z X off (jL x :: (jN :: (jpad t ++ List.replicate n jN))) from h) with ⟨-, h⟩ | h
    · rw [h]; exact List.mem_cons_self
    · rcases jlv_cons.mp h with ⟨h, -⟩ | h
      · exact absurd rfl h
      · exact List.mem_cons_of_mem _ (jlv_pad t (off + 2) h)
  | .inr (.inr none) :: t, off, h => by
    rcases jlv_cons.mp (show q ∈ jlv z X off (jN :: (jpad t ++ List.replicate n jN)) from h) with ⟨h, -⟩ | h
    · exact absurd rfl h
    · exact List.mem_cons_of_mem _ (jlv_pad t (off + 1) h)
  | .inr (.inr (some none)) :: t, off, h => by
    rcases jlv_cons.mp (show q ∈ jlv z X off (jS :: (jpad t ++ List.replicate n jN)) from h) with ⟨-, h⟩ | h
    · rw [h]; exact List.mem_cons_self
    · exact List.mem_cons_of_mem _ (jlv_pad t (off + 1) h)
  | .inr (.inr (some (some h0))) :: t, off, h => by
    rcases jlv_cons.mp (show q ∈ jlv z X off (jR h0 :: (jpad t ++ List.replicate n jN)) from h) with ⟨-, h⟩ | h
    · rw [h]; exact List.mem_cons_self
    · exact List.mem_cons_of_mem _ (jlv_pad t (off + 1) h)
theorem jokL_app : ∀ {A B : List jV}, jokL A → jokL B → jokL (A ++ B)
  | [], _, _, h => h
  | _ :: _, _, h1, h => ⟨h1.1, jokL_app h1.2 h⟩
theorem jokL_app1 : ∀ {A B : List jV}, jokL (A ++ B) → jokL A
  | [], _, _ => trivial
  | _ :: _, _, h1 => ⟨h1.1, jokL_app1 h1.2⟩
theorem jokL_app2 : ∀ {A B : List jV}, jokL (A ++ B) → jokL B
  | [], _, h => h
  | _ :: t, _, h1 => jokL_app2 (A := t) h1.2
theorem jokL_rep : ∀ n : Nat, jokL (List.replicate n jN)
  | 0 => trivial
  | n + 1 => ⟨trivial, jokL_rep n⟩
theorem jokL_pad : ∀ vs : List jV, jokL vs → jokL (jpad vs)
  | [], h => h
  | .inl x :: t, h => ⟨h.1, jokL_pad t h.2⟩
  | .inr (.inl x) :: t, h => ⟨h.1, trivial, jokL_pad t h.2⟩
  | .inr (.inr none) :: t, h => ⟨trivial, jokL_pad t h.2⟩
  | .inr (.inr (some none)) :: t, h => ⟨trivial, jokL_pad t h.2⟩
  | .inr (.inr (some (some h0))) :: t, h => ⟨trivial, jokL_pad t h.2⟩
theorem jokL_rev : ∀ {A : List jV}, jokL A.reverse → jokL A
  | [], _ => trivial
  | v :: t, h => by
    rw [List.reverse_cons] at h
    exact ⟨(jokL_app2 h).1, jokL_rev (jokL_app1 h)⟩
/-- what a method needs of the words -/
def jMd (mm : jMt) (np : Nat) : Prop := mm.2.2.2.2 = false ∧ plainName mm.1.cls = true ∧ Cond.code mm.1 mm.2.1 mm.2.2.1 mm.2.2.2.1 ∈ jW ∧ Cond.initialized mm.1.cls ∈ jW ∧ (mm.1.cls ≠ "java/lang/invoke/MethodHandle" ∧ mm.1.cls ≠ "java/lang/invoke/VarHandle" ∧ (parseMethodDescriptor mm.1.desc).map (fun d => d.parameters.length) = some np) ∧ mm.2.2.1 ≤ 40
abbrev jws0 (mm : jMt) : List Cond := Cond.code mm.1 mm.2.1 mm.2.2.1 mm.2.2.2.1 :: jW
abbrev jrm (d : Nat) (a : Nat × Nat) : Room := { frames := d, cells := a.1, slots := a.2, locals := 64 * d }
def jPc (z : Nat) (X : jX) (D : va_G) (aC : Nat → ClassId) (args : List jV) (μ : jM) : Array Value → State → Prop := fun av U => av = (args.map (jval z X)).toArray ∧ jKn D aC U ∧ U.heap.size = z + μ.1.length ∧ va_P D vwCl (jws z aC μ) U.heap ∧ jokM μ ∧ jokL args
def jQc (z : Nat) (X : jX) (D : va_G) (aC : Nat → ClassId) (Q : Option jV → jM → Prop) : Array Value → State → Outcome → State → Prop := fun _ st o t => ∃ (r : Option jV) (μ : jM), Q r μ ∧ o = .returned (r.map (jval z X)) ∧ t.heap.size = z + μ.1.length ∧ va_P D vwCl (jws z aC μ) t.heap ∧ jokM μ ∧ jokL r.toList ∧ st.heap.size ≤ t.heap.size ∧ ∀ q : Nat, q < st.heap.size → ¬ z ≤ q → t.heap[q]? = st.heap[q]?
theorem jPc_blind {z : Nat} {X : jX} {D : va_G} {aC : Nat → ClassId} {args : List jV} {μ : jM} : FrameBlind (jPc z X D aC args μ) := fun a U g mk h => ⟨h.1, jKn.same (s := U) (U := U.calling g mk a) rfl h.2.1, h.2.2⟩
theorem met_of_J {l : Launch} {z : Nat} {X : jX} {d : Nat} {mm : jMt} {a : Nat × Nat} {args L0 : List jV} {μ : jM} {Q : Option jV → jM → Prop} {np : Nat} (D : va_G) (aC : Nat → ClassId) (hm : jMd mm np) (hlen : (jpad args).length ≤ mm.2.2.1) (hL0 : L0 = jpad args ++ List.replicate (mm.2.2.1 - (jpad args).length) jN) (hJ : J l z X d mm a 0 L0 [] μ Q) :
    Met l mm.1 (jws0 mm) (jrm d a) (jPc z X D aC args μ) (jQc z X D aC Q) a.1 a.2 (fun q => z ≤ q) := by
  obtain ⟨hsc, hpl, hcode, -, -, -⟩ := hm
  refine Met.ofW (cc := mm.2.1) (maxL := mm.2.2.1) (ret := mm.2.2.2.1) hpl rfl ?_
  intro p e s m args' below meth c s₁ B hml hv
  obtain ⟨rfl, hkn, hsz, hP, hM, hok⟩ := hv
  rw [lg_entry_eq]
  have hts := atoms_spec (ws := jws0 mm) B.pre
  have hl := lv_entry (args.map (jval z X)) (n := mm.2.2.1) (by rw [jpad_lg]; exact hlen)
  have hl1 : lv_has ((lg_sl (args.map (jval z X)) ++ List.replicate (mm.2.2.1 - (lg_sl (args.map (jval z X))).length) Slot.unset).toArray) mm.2.2.1 (jlv z X 0 L0) := ⟨hl.1, hl.2.1, fun q hq => hl.2.2 q (jlv_pad args 0 (by rw [← hL0]; exact hq))⟩
  have hctx : jCtx z X d mm D aC p (jrm d a) s m (args.map (jval z X)).toArray meth c := ⟨B.exec, B.bytes, hml, B.returns, B.notSynchronized, findClass_of_methodNamed B.named, (name_of_methodNamed B.named B.method).1, fun w hw => hts w (List.mem_cons_of_mem _ hw), hkn, Nat.le_refl _, Nat.le_refl _, by rw [hsz]; exact Nat.le_add_right _ _, fun q => by rw [hsc] at q; exact absurd q (by decide)⟩
  have hat : jAt z X mm D aC (jrm d a) a s L0 [] μ s.heap [] 0 0 ((lg_sl (args.map (jval z X)) ++ List.replicate (mm.2.2.1 - (lg_sl (args.map (jval z X))).length) Slot.unset).toArray) := ⟨⟨hsz, hP, va_S.rf, by show 0 + a.1 ≤ a.1; omega, by show 0 + a.2 ≤ a.2; omega, hM⟩, hl1, by rw [hL0]; simp; omega, by rw [hL0]; exact jokL_app (jokL_pad _ hok) (jokL_rep _), trivial⟩
  refine hJ D aC p e (jrm d a) s m (args.map (jval z X)).toArray below meth c _ hctx ?_ s.heap [] 0 0 _ hat
  intro r μ' hq a' L H locs cells slots ls pc hat2 hret
  obtain ⟨⟨g1, g2, g3, g4, g5, g6⟩, -, -, -, gok⟩ := hat2
  have g4' : cells ≤ a.1 := Nat.le_trans (Nat.le_add_right _ _) g4
  have g5' : slots ≤ a.2 := Nat.le_trans (Nat.le_add_right _ _) g5
  have hx := B.exec
  have hb := B.bytes
  have hr := B.returns
  have hlocks := B.notSynchronized
  have hQ : ∀ t : State, t.heap = H → jQc z X D aC Q (args.map (jval z X)).toArray s (.returned (r.map (jval z X))) t := fun t ht => ⟨r, μ', hq, rfl, by rw [ht]; exact g1, by rw [ht]; exact g2, g6, gok, by rw [ht]; exact g3.1, fun q h1 h2 => by rw [ht]; exact g3.2.1 q h1 h2⟩
  refine W.widen g4' g5' ?_
  rcases r with _ | x | x | (_ | _ | x)
  · exact W.vret hx hb (hr.trans hret.1) (fun t ht _ => hQ t ht) g3.2.2 hret.2
  · obtain ⟨h1 | ⟨h1, h2⟩, h3⟩ := hret
    · exact W.iret hx hb (hr.trans h1) (fun t ht _ => hQ t ht) g3.2.2 h3
    · exact W.zret hx hb (hr.trans h1) (by rcases h2 with rfl | rfl <;> decide +kernel) (fun t ht _ => hQ t ht) g3.2.2 h3
  · exact W.lret hx hb (hr.trans hret.1) (fun t ht _ => hQ t ht) g3.2.2 hret.2
  · exact absurd hret (by simp [jRet])
  · exact absurd hret (by simp [jRet])
  · exact absurd hret (by simp [jRet])
theorem jcat_sum {z : Nat} {X : jX} {S : List jV} {n : Nat} (h : ((S.map (jval z X)).map fun v => v.category).sum = n) (hn : n ≤ 8) : ((S.map (jval z X)).map fun v => v.category).sum ≤ 8 := by rw [h]; exact hn
def jcat : jV → Nat
  | .inr (.inl _) => 2
  | _ => 1
theorem jcat_eq {z : Nat} {X : jX} (v : jV) : (jval z X v).category = jcat v := by rcases v with x | x | (_ | _ | x) <;> rfl
theorem jcats {z : Nat} {X : jX} : ∀ S : List jV, ((S.map (jval z X)).map fun v => v.category).sum = (S.map jcat).sum
  | [] => rfl
  | v :: t => by
    simp only [List.map_cons, List.sum_cons, jcat_eq]
    rw [jcats t]
section CALLR
variable {l : Launch} {z : Nat} {X : jX} {d : Nat} {mm : jMt} {pc : Nat} {L S : List jV} {μ : jM} {Q : Option jV → jM → Prop}
/-- the common end of the four kinds of call -/
theorem jgo {D : va_G} {aC : Nat → ClassId} {p : Program} {e : Env} {R : Room} {s : State} {m : MethodId} {args : Array Value} {below : List Frame} {meth : Method} {c : Code} {Φ : State → Prop} {H : Heap} {locs : List Loc} {cells slots : Nat} {ls : Array Slot} {a1 a2 : Nat × Nat} {st : List jV} {av : Array Value}
    (hc : jCtx z X d mm D aC p R s m args meth c) (he : jEnd z X mm D aC l p e R s m args below meth c Q Φ) (ha : jAt z X mm D aC R (a1.1 + a2.1, a1.2 + a2.2) s L st μ H locs cells slots ls) (hS : jokL S)
    (hrun : va_Run p l e R s m args below meth c H locs cells slots a1.1 a1.2 (F0 m pc ls (st.map (jval z X))) (S.map (jval z X)) (jQc z X D aC (fun r μ' => J l z X d mm a2 (pc + 3) L (r.toList ++ S) μ' Q) av) (fun q => z ≤ q)) :
    W p l e R s m args below meth c H locs cells slots Φ (F0 m pc ls (st.map (jval z X))) := by
  obtain ⟨⟨hs, hP, hSt, h4, h5, hM⟩, hl, hLn, hLo, hSo⟩ := ha
  intro T hT X0
  obtain ⟨v, st₀, t, T', L', h0, X', hL', e1, e2, ⟨r, μ', hq, ho, q1, q2, q3, q4, q5, q6⟩, stp⟩ := hrun T hT X0
  have hv : v = r.map (jval z X) := Outcome.returned.inj ho
  rw [h0] at q5 q6
  have hat : jAt z X mm D aC R a2 s L (r.toList ++ S) μ' T'.heap (locs ++ L') (cells + a1.1) (slots + a1.2) ls := by
    refine ⟨⟨by rw [e1]; exact q1, by rw [e1]; exact q2, ⟨Nat.le_trans hSt.1 (by rw [e1]; exact q5), fun q g1 g2 => ?_, fun q hq => ?_⟩, ?_, ?_, q3⟩, hl, hLn, hLo, jokL_app q4 hS⟩
    · rw [e1, q6 q (Nat.lt_of_lt_of_le g1 hSt.1) g2]
      exact hSt.2.1 q g1 g2
    · rcases List.mem_append.mp hq with g | g
      · exact hSt.2.2 q g
      · exact hL' q g
    · have h4' : cells + (a1.1 + a2.1) ≤ R.cells := h4
      omega
    · have h5' : slots + (a1.2 + a2.2) ≤ R.slots := h5
      omega
  obtain ⟨t2, b1, b2⟩ := hq D aC p e R s m args below meth c Φ hc he T'.heap (locs ++ L') (cells + a1.1) (slots + a1.2) ls hat T' rfl X'
  refine ⟨t2, stp t2 ?_, b2⟩
  have e9 : v.toList ++ S.map (jval z X) = (r.toList ++ S).map (jval z X) := by
    rw [hv]
    cases r <;> rfl
  rw [e9]
  exact b1
theorem jPc_at {D : va_G} {aC : Nat → ClassId} {s : State} {H : Heap} {args : List jV} (hk : jKn D aC s) (hs : H.size = z + μ.1.length) (hP : va_P D vwCl (jws z aC μ) H) (hM : jokM μ) (ho : jokL args) : ∀ U : State, U.heap = H → s.WarmedH U.vm → jPc z X D aC args μ (args.map (jval z X)).toArray U := fun U hU hW => ⟨rfl, hk.warm hW, by rw [hU]; exact hs, by rw [hU]; exact hP, hM, ho⟩
theorem J_callV {a1 a2 : Nat × Nat} {mm' : jMt} {index np h n ci : Nat} {C : String} {T : u_T} {rs : List (Option Nat)} {L0 st : List jV} (args : List jV) (hm : jMd mm' np) (hi : Cond.instanceMethod mm'.1 ∈ jW) (hse : Cond.selects mm'.1.cls mm'.1 mm'.1 ∈ jW) (hd : decode mm.2.1 pc = .ok (.invokevirtual index, 3)) (hw : Cond.methodLink mm.1.cls index mm'.1 ∈ jW)
    (hcl : vwCl[ci]? = some (C, T, n)) (hC : mm'.1.cls = C) (hG : μ.1[h]? = some (ci + 5, n, rs)) (hnp : args.length = np) (hst : st = args.reverse ++ jR h :: S) (hcat : (S.map jcat).sum ≤ 8) (hlen : (jpad (jR h :: args)).length ≤ mm'.2.2.1) (hL0 : L0 = jpad (jR h :: args) ++ List.replicate (mm'.2.2.1 - (jpad (jR h :: args)).length) jN)
    (k : J l z X d mm' a1 0 L0 [] μ (fun r μ' => J l z X (d + 1) mm a2 (pc + 3) L (r.toList ++ S) μ' Q)) : J l z X (d + 1) mm (a1.1 + a2.1, a1.2 + a2.2) pc L st μ Q := by
  subst hst
  intro D aC p e R s m args0 below meth c Φ hc he H locs cells slots ls ha
  obtain ⟨⟨hs, hP, hSt, h4, h5, hM⟩, hl, hLn, hLo, hSo⟩ := id ha
  obtain ⟨hx, hb, hml, hr, hlk, hown, hnm, hts, hkn, hdf, hdl, hz, -⟩ := id hc
  have hMet := met_of_J D aC hm hlen hL0 k
  have hA := jokL_rev (jokL_app1 hSo)
  have hS' := (jokL_app2 (A := args.reverse) hSo).2
  obtain ⟨G, M⟩ := μ
  refine jgo hc he ha hS' (av := (Value.ref (z + h) :: args.map (jval z X)).toArray) ?_
  have hG1 : GoodIn jW (jws0 mm') := fun w hw => by
    rcases List.mem_cons.mp hw with e9 | e9
    · rw [e9]; exact jW_good _ hm.2.2.1
    · exact jW_good w e9
  have hnl := hm.2.2.2.2.2
  have hcw : CallW R s args0 mm.1.cls C index mm'.1 mm'.2.1 mm'.2.2.1 mm'.2.2.2.1 (jws0 mm') (jrm d a1) a1.1 a1.2 np := by
    refine ⟨callB_of np hts hG1 rfl rfl rfl (hts _ hm.2.2.2.1) (hts _ hw) hm.2.2.2.2.1 ⟨hdf, ?_⟩, hts _ hi, ?_⟩
    · show 8 + (mm'.2.2.1 + 11) + 64 * d ≤ R.locals
      omega
    · rw [← hC]; exact hts _ hse
  exact va_runV (As := args.map (jval z X)) ⟨hx, hb, hml, hown, hts⟩ hMet hcw ⟨jPc_blind, va_recv hkn.2 hP (ci := ci) (q0 := h) hcl (jws_get hG), jPc_at (args := jR h :: args) hkn hs hP hM ⟨trivial, hA⟩⟩ rfl (by rw [List.length_map]; exact hnp) hl.1 (by simp [jval, List.map_reverse]) (lv_room (by rw [jcats]; exact hcat)) hd
    ⟨by have h4' : cells + (a1.1 + a2.1) ≤ R.cells := h4; omega, by have h5' : slots + (a1.2 + a2.2) ≤ R.slots := h5; omega⟩
theorem J_callS {a1 a2 : Nat × Nat} {mm' : jMt} {index np : Nat} {L0 st : List jV} (args : List jV) (hm : jMd mm' np) (hi : Cond.static mm'.1 ∈ jW) (hd : decode mm.2.1 pc = .ok (.invokestatic index, 3)) (hw : Cond.methodLink mm.1.cls index mm'.1 ∈ jW)
    (hnp : args.length = np) (hst : st = args.reverse ++ S) (hcat : (S.map jcat).sum ≤ 8) (hlen : (jpad args).length ≤ mm'.2.2.1) (hL0 : L0 = jpad args ++ List.replicate (mm'.2.2.1 - (jpad args).length) jN)
    (k : J l z X d mm' a1 0 L0 [] μ (fun r μ' => J l z X (d + 1) mm a2 (pc + 3) L (r.toList ++ S) μ' Q)) : J l z X (d + 1) mm (a1.1 + a2.1, a1.2 + a2.2) pc L st μ Q := by
  subst hst
  intro D aC p e R s m args0 below meth c Φ hc he H locs cells slots ls ha
  obtain ⟨⟨hs, hP, hSt, h4, h5, hM⟩, hl, hLn, hLo, hSo⟩ := id ha
  obtain ⟨hx, hb, hml, hr, hlk, hown, hnm, hts, hkn, hdf, hdl, hz, -⟩ := id hc
  have hMet := met_of_J D aC hm hlen hL0 k
  have hA := jokL_rev (jokL_app1 hSo)
  refine jgo hc he ha (jokL_app2 hSo) (av := (args.map (jval z X)).toArray) ?_
  have hG1 : GoodIn jW (jws0 mm') := fun w hw => by
    rcases List.mem_cons.mp hw with e9 | e9
    · rw [e9]; exact jW_good _ hm.2.2.1
    · exact jW_good w e9
  have hnl := hm.2.2.2.2.2
  have hcw : CallB R s args0 mm.1.cls index mm'.1 mm'.2.1 mm'.2.2.1 mm'.2.2.2.1 (jws0 mm') (jrm d a1) a1.1 a1.2 np ∧ (Cond.static mm'.1).before args0 s = true := by
    refine ⟨callB_of np hts hG1 rfl rfl rfl (hts _ hm.2.2.2.1) (hts _ hw) hm.2.2.2.2.1 ⟨hdf, ?_⟩, hts _ hi⟩
    show 8 + (mm'.2.2.1 + 11) + 64 * d ≤ R.locals
    omega
  exact va_runS (As := args.map (jval z X)) ⟨hx, hb, hml, hown, hts⟩ hMet hcw ⟨jPc_blind, jPc_at hkn hs hP hM hA⟩ rfl (by rw [List.length_map]; exact hnp) hl.1 (by simp [List.map_reverse]) (lv_room (by rw [jcats]; exact hcat)) hd
    ⟨by have h4' : cells + (a1.1 + a2.1) ≤ R.cells := h4; omega, by have h5' : slots + (a1.2 + a2.2) ≤ R.slots := h5; omega⟩
theorem J_callI {a1 a2 : Nat × Nat} {mm' : jMt} {index np h : Nat} {L0 st : List jV} (args : List jV) (hm : jMd mm' np) (hi : Cond.instanceMethod mm'.1 ∈ jW) (hret : mm'.2.2.2.1 = none) (hini : mm'.1.name = "<init>") (hd : decode mm.2.1 pc = .ok (.invokespecial index, 3)) (hw : Cond.methodLink mm.1.cls index mm'.1 ∈ jW)
    (hnp : args.length = np) (hst : st = args.reverse ++ jR h :: S) (hcat : (S.map jcat).sum ≤ 8) (hlen : (jpad (jR h :: args)).length ≤ mm'.2.2.1) (hL0 : L0 = jpad (jR h :: args) ++ List.replicate (mm'.2.2.1 - (jpad (jR h :: args)).length) jN)
    (k : J l z X d mm' a1 0 L0 [] μ (fun r μ' => J l z X (d + 1) mm a2 (pc + 3) L (r.toList ++ S) μ' Q)) : J l z X (d + 1) mm (a1.1 + a2.1, a1.2 + a2.2) pc L st μ Q := by
  subst hst
  intro D aC p e R s m args0 below meth c Φ hc he H locs cells slots ls ha
  obtain ⟨⟨hs, hP, hSt, h4, h5, hM⟩, hl, hLn, hLo, hSo⟩ := id ha
  obtain ⟨hx, hb, hml, hr, hlk, hown, hnm, hts, hkn, hdf, hdl, hz, -⟩ := id hc
  have hMet := met_of_J D aC hm hlen hL0 k
  have hA := jokL_rev (jokL_app1 hSo)
  refine jgo hc he ha (jokL_app2 (A := args.reverse) hSo).2 (av := (Value.ref (z + h) :: args.map (jval z X)).toArray) ?_
  have hG1 : GoodIn jW (jws0 mm') := fun w hw => by
    rcases List.mem_cons.mp hw with e9 | e9
    · rw [e9]; exact jW_good _ hm.2.2.1
    · exact jW_good w e9
  have hnl := hm.2.2.2.2.2
  have hcw : CallB R s args0 mm.1.cls index mm'.1 mm'.2.1 mm'.2.2.1 none (jws0 mm') (jrm d a1) a1.1 a1.2 np ∧ mm'.1.name = "<init>" ∧ (Cond.instanceMethod mm'.1).before args0 s = true := by
    refine ⟨callB_of np hts hG1 (by unfold jws0; rw [hret]) rfl rfl (hts _ hm.2.2.2.1) (hts _ hw) hm.2.2.2.2.1 ⟨hdf, ?_⟩, hini, hts _ hi⟩
    show 8 + (mm'.2.2.1 + 11) + 64 * d ≤ R.locals
    omega
  exact va_runI (b := z + h) (As := args.map (jval z X)) ⟨hx, hb, hml, hown, hts⟩ hMet hcw ⟨jPc_blind, jPc_at (args := jR h :: args) hkn hs hP hM ⟨trivial, hA⟩⟩ rfl (by rw [List.length_map]; exact hnp) hl.1 (by simp [jval, List.map_reverse]) (lv_room (by rw [jcats]; exact hcat)) hd
    ⟨by have h4' : cells + (a1.1 + a2.1) ≤ R.cells := h4; omega, by have h5' : slots + (a1.2 + a2.2) ≤ R.slots := h5; omega⟩
theorem J_callIN {a1 a2 : Nat × Nat} {mm' : jMt} {index np h : Nat} {host : String} {L0 st : List jV} (args : List jV) (hm : jMd mm' np) (hi : Cond.instanceMethod mm'.1 ∈ jW) (hret : mm'.2.2.2.1 = none) (hini : mm'.1.name = "<init>") (hd : decode mm.2.1 pc = .ok (.invokespecial index, 3)) (hw : Cond.methodLinkNest mm.1.cls index mm'.1 host ∈ jNW)
    (hnp : args.length = np) (hst : st = args.reverse ++ jR h :: S) (hcat : (S.map jcat).sum ≤ 8) (hlen : (jpad (jR h :: args)).length ≤ mm'.2.2.1) (hL0 : L0 = jpad (jR h :: args) ++ List.replicate (mm'.2.2.1 - (jpad (jR h :: args)).length) jN)
    (k : J l z X d mm' a1 0 L0 [] μ (fun r μ' => J l z X (d + 1) mm a2 (pc + 3) L (r.toList ++ S) μ' Q)) : J l z X (d + 1) mm (a1.1 + a2.1, a1.2 + a2.2) pc L st μ Q := by
  subst hst
  intro D aC p e R s m args0 below meth c Φ hc he H locs cells slots ls ha
  obtain ⟨⟨hs, hP, hSt, h4, h5, hM⟩, hl, hLn, hLo, hSo⟩ := id ha
  obtain ⟨hx, hb, hml, hr, hlk, hown, hnm, hts, hkn, hdf, hdl, hz, -⟩ := id hc
  have hMet := met_of_J D aC hm hlen hL0 k
  have hA := jokL_rev (jokL_app1 hSo)
  refine jgo hc he ha (jokL_app2 (A := args.reverse) hSo).2 (av := (Value.ref (z + h) :: args.map (jval z X)).toArray) ?_
  have hG1 : GoodIn jW (jws0 mm') := fun w hw => by
    rcases List.mem_cons.mp hw with e9 | e9
    · rw [e9]; exact jW_good _ hm.2.2.1
    · exact jW_good w e9
  have hnl := hm.2.2.2.2.2
  have hcw : va_CN R s args0 mm.1.cls index mm'.1 host mm'.2.1 mm'.2.2.1 none (jws0 mm') (jrm d a1) a1.1 a1.2 np ∧ mm'.1.name = "<init>" ∧ (Cond.instanceMethod mm'.1).before args0 s = true := by
    refine ⟨va_cnB np hts hG1 (by unfold jws0; rw [hret]) rfl rfl (hkn.1 _ hw) (hts _ hm.2.2.2.1) hm.2.2.2.2.1 ⟨hdf, ?_⟩, hini, hts _ hi⟩
    show 8 + (mm'.2.2.1 + 11) + 64 * d ≤ R.locals
    omega
  exact va_runIN (b := z + h) (As := args.map (jval z X)) ⟨hx, hb, hml, hown, hts⟩ hMet hcw ⟨jPc_blind, jPc_at (args := jR h :: args) hkn hs hP hM ⟨trivial, hA⟩⟩ rfl (by rw [List.length_map]; exact hnp) hl.1 (by simp [jval, List.map_reverse]) (lv_room (by rw [jcats]; exact hcat)) hd
    ⟨by have h4' : cells + (a1.1 + a2.1) ≤ R.cells := h4; omega, by have h5' : slots + (a1.2 + a2.2) ≤ R.slots := h5; omega⟩
end CALLR
end
section
/-! ## System.arraycopy of ints from place 0 to place 0 -/
def jcpy (M : Nat → Int → Int) (h0 h1 : Nat) (n : Int) : Nat → Int → Int := fun h i => if h = h1 ∧ 0 ≤ i ∧ i < n then M h0 i else M h i
theorem jcpy_ne (M : Nat → Int → Int) {h0 h1 h : Nat} (n : Int) (e : h ≠ h1) : jcpy M h0 h1 n h = M h := funext fun _ => by simp [jcpy, e]
theorem jcpy_at (M : Nat → Int → Int) (h0 h1 : Nat) {n i : Int} (e : 0 ≤ i ∧ i < n) : jcpy M h0 h1 n h1 i = M h0 i := by simp [jcpy, e]
theorem J_acopy {l : Launch} {z : Nat} {X : jX} {d : Nat} {mm : jMt} {a : Nat × Nat} {pc : Nat} {L S : List jV} {G : List jKd} {M : Nat → Int → Int} {Q : Option jV → jM → Prop} {index n0 n1 h0 h1 : Nat} {n : Int} {rs0 rs1 : List (Option Nat)} (hd : decode mm.2.1 pc = .ok (.invokestatic index, 3)) (hw : Cond.methodLink mm.1.cls index arraycopyName ∈ jW) (hnat : Cond.native arraycopyName ∈ jW) (hstat : Cond.static arraycopyName ∈ jW) (hini : Cond.initialized "java/lang/System" ∈ jW)
    (hG0 : G[h0]? = some (0, n0, rs0)) (hG1 : G[h1]? = some (0, n1, rs1)) (hn : 0 ≤ n) (hn0 : n ≤ n0) (hn1 : n ≤ n1) (hcat : (S.map jcat).sum ≤ 8) (hd1 : 1 ≤ d)
    (kk : J l z X d mm a (pc + 3) L S (G, jcpy M h0 h1 n) Q) : J l z X d mm a pc L (jI n :: jI 0 :: jR h1 :: jI 0 :: jR h0 :: S) (G, M) Q := by
  intro D aC p e R s m args below meth c Φ hc he H locs cells slots ls ha
  obtain ⟨hH, hl, hLn, hLo, hSo⟩ := id ha
  obtain ⟨hHs, hP, hS, hcl0, hsl0, hM⟩ := id hH
  obtain ⟨hx, hb, hml, hr, hlk, hown, hnm, hts, hkn, hdf, hdl, hz, -⟩ := id hc
  intro T hT X0
  have hni : (Int32.ofInt n).toNatClampNeg = n.toNat := j32_ix (n := n0) hn hSo.1
  have h00 : (Int32.ofInt 0).toNatClampNeg = 0 := j32_ix (n := n0) (Int.le_refl 0) jIn0
  have h0i : (Int32.ofInt 0).toInt = 0 := j32 jIn0
  have hnn : (Int32.ofInt n).toInt = n := j32 hSo.1
  have hc0 : H[z + h0]? = some (vp_cell (aC 0) (n0, .inl (fun j => Int32.ofInt (M h0 j)))) := hP h0 _ (jws_get hG0)
  have hc1 : H[z + h1]? = some (vp_cell (aC 0) (n1, .inl (fun j => Int32.ofInt (M h1 j)))) := hP h1 _ (jws_get hG1)
  obtain ⟨-, k0, hk0, cm0, hkk0⟩ := (hkn.2.2 0 _ rfl).1 n0 (fun j => .int (Int32.ofInt (M h0 j)))
  obtain ⟨-, k1, hk1, cm1, hkk1⟩ := (hkn.2.2 0 _ rfl).1 n1 (fun j => .int (Int32.ofInt (M h1 j)))
  obtain ⟨vm', X', step⟩ := X0.arraycopy hx hown (hts _ hw) (hts _ hnat) (hts _ hstat) (hts _ hini) (src := z + h0) (dst := z + h1) (cs := vp_cell (aC 0) (n0, .inl (fun j => Int32.ofInt (M h0 j)))) (cd := vp_cell (aC 0) (n1, .inl (fun j => Int32.ofInt (M h1 j)))) (srcPos := Int32.ofInt 0) (destPos := Int32.ofInt 0) (n := Int32.ofInt n) (by rw [hT]; exact hc0) (by rw [hT]; exact hc1)
    (fun _ h => by cases h) (fun _ h => by cases h) (fun h => by cases h) (fun h => by cases h) hk0 hk1 hkk0 hkk1 rfl (by rw [Int32.lt_iff_toInt_lt, h0i]; decide) (by rw [Int32.lt_iff_toInt_lt, h0i]; decide) (by rw [Int32.lt_iff_toInt_lt, hnn]; simpa using hn)
    (by rw [h0i, hnn]; show ¬ _ > ((arrV (aC 0) n0 (fun j => .int (Int32.ofInt (M h0 j)))).slots.size : Int); rw [arrV_size]; omega)
    (by rw [h0i, hnn]; show ¬ _ > ((arrV (aC 0) n1 (fun j => .int (Int32.ofInt (M h1 j)))).slots.size : Int); rw [arrV_size]; omega)
    (fun vm₁ _ i hi => by
      have e9 : (vp_cell (aC 0) (n0, .inl (fun j => Int32.ofInt (M h0 j)))).slots.getD ((Int32.ofInt 0).toNatClampNeg + i) .null = .int (Int32.ofInt (M h0 (((Int32.ofInt 0).toNatClampNeg + i : Nat) : Int))) := by
        show (arrV (aC 0) n0 (fun j => .int (Int32.ofInt (M h0 j)))).slots.getD _ _ = _
        rw [Array.getD_eq_getD_getElem?, arrV_read _ _ (by rw [h00]; rw [hni] at hi; omega)]
        rfl
      exact ⟨by rw [e9]; rfl, by rw [e9]; exact trivial⟩)
    (g := F0 m pc ls ((jI n :: jI 0 :: jR h1 :: jI 0 :: jR h0 :: S).map (jval z X))) rfl (by rw [hml]; exact hl.1) (rest := S.map (jval z X)) rfl (by rw [hb]; exact hd) (Nat.le_trans hd1 hdf) (by
      show 2 * 0 + _ + _ ≤ _
      rw [jcats]
      have : nativeFrameWords "java/lang/System" "arraycopy" 5 + 11 ≤ 40 := by decide +kernel
      omega)
  have e1 := va_copied (n := (Int32.ofInt n).toNatClampNeg) (dp := (Int32.ofInt 0).toNatClampNeg) (sp := (Int32.ofInt 0).toNatClampNeg) (n1 := n1) (fun z => Value.int z) (aC 0) (aC 0) (fun j => Int32.ofInt (M h0 j)) (fun j => Int32.ofInt (M h1 j)) (n0 := n0) (by rw [h00, hni]; omega)
  have e2 : copied (vp_cell (aC 0) (n0, .inl (fun j => Int32.ofInt (M h0 j)))) (vp_cell (aC 0) (n1, .inl (fun j => Int32.ofInt (M h1 j)))) (Int32.ofInt 0) (Int32.ofInt 0) (Int32.ofInt n) = vp_cell (aC 0) (n1, .inl (fun j => Int32.ofInt (jcpy M h0 h1 n h1 j))) := by
    refine Eq.trans e1 ?_
    rw [vp_cell_i]
    refine congrArg (arrV (aC 0) n1) (funext fun j => ?_)
    unfold va_cpy jcpy
    rw [h00, hni]
    by_cases hj : j < n.toNat
    · rw [if_pos ⟨Nat.zero_le _, by omega⟩, if_pos ⟨rfl, by omega, by omega⟩]
      simp
    · rw [if_neg (by omega), if_neg (by omega)]
  rw [e2] at X' step
  have hlt : z + h1 < H.size := (Array.getElem?_eq_some_iff.mp hc1).1
  generalize hHn : H.setIfInBounds (z + h1) (vp_cell (aC 0) (n1, .inl (fun j => Int32.ofInt (jcpy M h0 h1 n h1 j)))) = H1
  have hheap : ((T.setVm vm').setCell (z + h1) (vp_cell (aC 0) (n1, .inl (fun j => Int32.ofInt (jcpy M h0 h1 n h1 j))))).heap = H1 := by rw [← hHn, ← hT]; rfl
  have oq : ∀ q : Nat, q ≠ z + h1 → H1[q]? = H[q]? := fun q hq => by rw [← hHn]; simp [Array.getElem?_setIfInBounds, Ne.symm hq]
  have oz : H1.size = H.size := by rw [← hHn]; simp
  have hat1 : H1[z + h1]? = some (vp_cell (aC 0) (n1, .inl (fun j => Int32.ofInt (jcpy M h0 h1 n h1 j)))) := by rw [← hHn]; simp [Array.getElem?_setIfInBounds, hlt]
  have hP1 := hP.set jws_D (jws_get hG1) (e := .inl (aC 0, n1, .inl (fun j => Int32.ofInt (jcpy M h0 h1 n h1 j)))) hat1 oq
  rw [jws_set (G' := G) (M' := jcpy M h0 h1 n) rfl (by rw [jget0 hG1]; rfl) (fun j hj => ⟨rfl, jcpy_ne M n hj⟩)] at hP1
  have hM1 : jokM (G, jcpy M h0 h1 n) := by
    intro k' j
    obtain ⟨g1, g2, g3⟩ := hM k' j
    dsimp only at g1 g2 g3 ⊢
    unfold jcpy
    by_cases hh : k' = h1 ∧ 0 ≤ j ∧ j < n
    · rw [if_pos hh]
      obtain ⟨r1, -, -⟩ := hh
      subst r1
      have e3 : jlen G k' = 0 := by unfold jlen; rw [jget0 hG1]
      have e4 : k' < G.length := (List.getElem?_eq_some_iff.mp hG1).1
      exact ⟨fun q => by rw [e3] at q; exact absurd q (by decide), fun _ => jokM_int hM (k := h0) hG0 (show ¬ (0 : Nat) = 1 by decide) j, fun q => absurd e4 (Nat.not_lt.mpr q)⟩
    · rw [if_neg hh]
      exact ⟨g1, g2, g3⟩
  obtain ⟨t, b1, b2⟩ := kk D aC p e R s m args below meth c Φ hc he H1 _ cells slots ls ⟨⟨by rw [oz]; exact hHs, hP1, ⟨by rw [oz]; exact hS.1, fun q g1 g2 => by
      rw [oq q (fun r => g2 (by rw [r]; exact Nat.le_add_right _ _))]
      exact hS.2.1 q g1 g2, fun q hq => by
      rcases List.mem_append.mp hq with g | g
      · exact hS.2.2 q g
      · obtain ⟨w, -, hw9⟩ := List.mem_map.mp g
        rw [← hw9]
        exact Nat.le_add_right _ _⟩, hcl0, hsl0, hM1⟩, hl, hLn, hLo, hSo.2.2.2.2.2⟩ _ hheap X'
  exact ⟨t, step t b1, b2⟩
end
section
/-! ## new cells -/
theorem jget_app1 {G ks : List jKd} {k : Nat} (h : k < G.length) : (G ++ ks).getD k (0, 0, []) = G.getD k (0, 0, []) := by
  rw [List.getD_eq_getElem?_getD, List.getD_eq_getElem?_getD, List.getElem?_append_left h]
theorem jget_app2 {G ks : List jKd} {i : Nat} : (G ++ ks).getD (G.length + i) (0, 0, []) = ks.getD i (0, 0, []) := by
  rw [List.getD_eq_getElem?_getD, List.getD_eq_getElem?_getD, List.getElem?_append_right (Nat.le_add_right _ _), Nat.add_sub_cancel_left]
theorem jws_app {z : Nat} {aC : Nat → ClassId} {G ks : List jKd} {M : Nat → Int → Int} : jws z aC (G ++ ks, M) = jws z aC (G, M) ++ (List.range ks.length).map (fun i => (z + (G.length + i), jent z aC (ks.getD i (0, 0, [])) (M (G.length + i)))) := by
  unfold jws
  simp only [List.length_append, List.range_add, List.map_append, List.map_map]
  congr 1
  · apply List.map_congr_left
    intro k hk
    rw [jget_app1 (List.mem_range.mp hk)]
  · apply List.map_congr_left
    intro k hk
    simp only [Function.comp]
    rw [jget_app2]
theorem jlen_app {G ks : List jKd} {M : Nat → Int → Int} (h : jokM (G, M)) : jokM (G ++ ks, M) := by
  intro k j
  obtain ⟨h1, h2, h3⟩ := h k j
  dsimp only at h1 h2 h3 ⊢
  by_cases hk : k < G.length
  · have e : jlen (G ++ ks) k = jlen G k := by unfold jlen; rw [jget_app1 hk]
    rw [e]
    exact ⟨h1, h2, fun q => absurd hk (by rw [List.length_append] at q; omega)⟩
  · have e := h3 (Nat.not_lt.mp hk)
    rw [e]
    exact ⟨fun _ => by unfold jInL; omega, fun _ => by unfold jIn; omega, fun _ => rfl⟩
theorem jHp_new {z : Nat} {D : va_G} {aC : Nat → ClassId} {R : Room} {s : State} {a : Nat × Nat} {G ks : List jKd} {M : Nat → Int → Int} {H H1 : Heap} {locs : List Loc} {cells slots n : Nat} (h : jHp z D aC R (a.1 + ks.length, a.2 + n) s (G, M) H locs cells slots) (hE : ∀ (i : Nat) (kd : jKd), ks[i]? = some kd → va_at D vwCl (z + (G.length + i), jent z aC kd (M (G.length + i))) H1) (hz : H1.size = H.size + ks.length) (ho : ∀ q : Nat, q < H.size → H1[q]? = H[q]?) : jHp z D aC R a s (G ++ ks, M) H1 locs (cells + ks.length) (slots + n) := by
  obtain ⟨hs, hP, hS, h4, h5, hM⟩ := h
  refine ⟨?_, ?_, ⟨Nat.le_trans hS.1 (by omega), fun q g1 g2 => (ho q (Nat.lt_of_lt_of_le g1 hS.1)).trans (hS.2.1 q g1 g2), hS.2.2⟩, ?_, ?_, jlen_app hM⟩
  · rw [hz, hs]
    simp only [List.length_append]
    omega
  · rw [jws_app]
    refine (hP.kept (fun k q hk => ho q.1 (hP k q hk).lt)).app (fun k q hk => ?_)
    have hk1 := (List.getElem?_eq_some_iff.mp hk).1
    simp only [List.length_map, List.length_range] at hk1
    rw [List.getElem?_map, List.getElem?_range hk1] at hk
    have hk2 : (z + (G.length + k), jent z aC (ks.getD k (0, 0, [])) (M (G.length + k))) = q := Option.some.inj hk
    rw [← hk2]
    obtain ⟨kd, hkd⟩ : ∃ kd, ks[k]? = some kd := ⟨ks[k], List.getElem?_eq_getElem hk1⟩
    have := hE k kd hkd
    rw [List.getD_eq_getElem?_getD, hkd]
    exact this
  · have h4' : cells + (a.1 + ks.length) ≤ R.cells := h4
    omega
  · have h5' : slots + (a.2 + n) ≤ R.slots := h5
    omega
section ALLOC
variable {l : Launch} {z : Nat} {X : jX} {d : Nat} {mm : jMt} {a : Nat × Nat} {pc : Nat} {L S : List jV} {G : List jKd} {M : Nat → Int → Int} {Q : Option jV → jM → Prop}
theorem J_new {ci n index : Nat} {C : String} {T : u_T} (hcl : jCl ci C T n) (hdf : ∀ k, k < n → defaultValue (jfty ci k) = if jisref (jfty ci k) = true then .null else .int 0) (hd : decode mm.2.1 pc = .ok (.new index, 3)) (hw : Cond.classLink mm.1.cls index C ∈ jW) (hins : Cond.instantiable C n ∈ jW) (hini : Cond.initialized C ∈ jW)
    (kk : J l z X d mm a (pc + 3) L (jR G.length :: S) (G ++ [(ci + 5, n, List.replicate n none)], M) Q) : J l z X d mm (a.1 + 1, a.2 + n) pc L S (G, M) Q := by
  intro D aC p e R s m args below meth c Φ hc he H locs cells slots ls ha
  obtain ⟨hH, hl, hLn, hLo, hSo⟩ := id ha
  obtain ⟨hHs, hP, hS, hcl0, hsl0, hM⟩ := id hH
  obtain ⟨hx, hb, hml, hr, hlk, hown, hnm, hts, hkn, hdfr, hdl, hz, -⟩ := id hc
  obtain ⟨c1, c2, c3, c4, c5⟩ := hcl
  have hKn := hkn.2.1 ci _ c1
  have g4 : cells + (a.1 + 1) ≤ R.cells := hcl0
  have g5 : slots + (a.2 + n) ≤ R.slots := hsl0
  refine W.newcK hx hb hown (hts _ hw) (hts _ hins) (hts _ hini) rfl hd (by omega) (by omega) hKn.2.1 (h := z + G.length) hHs fun H1 kC hkC e1 z1 o1 => ?_
  have hE : va_at D vwCl (z + G.length, jent z aC (ci + 5, n, List.replicate n none) (M G.length)) H1 := by
    refine ⟨_, c1, (u_born (jfty ci) hts c2 hKn hkC e1 c3).to (fun k hk => ?_)⟩
    rw [hdf k hk]
    unfold vp_V
    rw [List.getD_eq_getElem?_getD, jfs_get hk]
    unfold jfv
    have e9 : M G.length (k : Int) = 0 := (hM G.length k).2.2 (Nat.le_refl _)
    rw [e9]
    by_cases hj : jisref (jfty ci k) = true
    · rw [if_pos hj, if_pos hj]
      simp [jrf, List.getD_eq_getElem?_getD, hk, va_rf]
    · rw [if_neg hj, if_neg hj]
      rfl
  have hH1 := jHp_new (ks := [(ci + 5, n, List.replicate n none)]) hH (H1 := H1) (fun i kd hi => by
    cases i with
    | zero => cases hi; exact hE
    | succ i => cases hi) (by rw [z1]; show _ = H.size + 1; rw [hHs]) (fun q hq => o1 q (by rw [← hHs]; exact hq))
  exact kk D aC p e R s m args below meth c Φ hc he H1 locs (cells + 1) (slots + n) ls ⟨hH1, hl, hLn, hLo, trivial, hSo⟩
theorem J_objInit {index h : Nat} (hd : decode mm.2.1 pc = .ok (.invokespecial index, 3)) (hw : Cond.methodLink mm.1.cls index Lib.objectInit ∈ jW) (hi : Cond.instanceMethod Lib.objectInit ∈ jW) (hcode : Cond.code Lib.objectInit ⟨#[0xb1]⟩ 1 none ∈ jW) (hd1 : 1 ≤ d) (hcat : (S.map jcat).sum ≤ 8)
    (kk : J l z X d mm a (pc + 3) L S (G, M) Q) : J l z X d mm a pc L (jR h :: S) (G, M) Q := by
  intro D aC p e R s m args below meth c Φ hc he H locs cells slots ls ha
  obtain ⟨hH, hl, hLn, hLo, hSo⟩ := id ha
  obtain ⟨hx, hb, hml, hr, hlk, hown, hnm, hts, hkn, hdfr, hdl, hz, -⟩ := id hc
  refine W.objInit hx hb hown (hts _ hw) (hts _ hi) (hts _ hcode) rfl (by rw [hml]; exact hl.1) rfl hd (Nat.le_trans hd1 hdfr) (by
    show 2 * 0 + (List.map (fun v => v.category) (S.map (jval z X))).sum + 12 ≤ _
    rw [jcats]
    omega) ?_
  exact kk D aC p e R s m args below meth c Φ hc he H locs cells slots ls ⟨hH, hl, hLn, hLo, hSo.2⟩
theorem J_newaI {n : Int} {N : Nat} (hd : decode mm.2.1 pc = .ok (.newarray .int, 2)) (hw : Cond.arrayClass .int ∈ jW) (hN : n = (N : Int)) (hb : N * 8 ≤ 536870912) (kk : J l z X d mm a (pc + 2) L (jR G.length :: S) (G ++ [(0, N, [])], M) Q) : J l z X d mm (a.1 + 1, a.2 + N) pc L (jI n :: S) (G, M) Q := by
  intro D aC p e R s m args below meth c Φ hc he H locs cells slots ls ha
  obtain ⟨hH, hl, hLn, hLo, hSo⟩ := id ha
  obtain ⟨hHs, hP, hS, hcl0, hsl0, hM⟩ := id hH
  obtain ⟨hx, hbb, hml, hr, hlk, hown, hnm, hts, hkn, hdfr, hdl, hz, -⟩ := id hc
  have g4 : cells + (a.1 + 1) ≤ R.cells := hcl0
  have g5 : slots + (a.2 + N) ≤ R.slots := hsl0
  have hni : (Int32.ofInt n).toNatClampNeg = N := by rw [j32_ix (n := N) (by omega) hSo.1, hN]; simp
  refine va_newaK hx hbb (atype := .int) (hts _ hw) rfl hd rfl (by rw [Int32.lt_iff_toInt_lt, j32 hSo.1]; show ¬ n < (0 : Int32).toInt; rw [show (0 : Int32).toInt = 0 by decide]; omega) hni (Nat.le_trans (Nat.mul_le_mul_left N (show componentBytes (newarray.typeOf .int) ≤ 8 by decide +kernel)) hb) (by omega) (by omega) (h := z + G.length) hHs fun H1 cA e1 z1 o1 hAr hNm => ?_
  have hcA : cA = aC 0 := by
    have h9 := (hkn.2.2 0 _ rfl).2
    have h8 : s.vm.findClass ("[" ++ (.int : FieldType).toString) = some (aC 0) := h9
    exact Option.some.inj (hNm.symm.trans h8)
  subst hcA
  have hE : va_at D vwCl (z + G.length, jent z aC (0, N, []) (M G.length)) H1 := by
    show H1[z + G.length]? = some (vp_cell (aC 0) (N, .inl (fun j => Int32.ofInt (M G.length j))))
    rw [e1, vp_cell_i]
    refine congrArg some (congrArg (arrV (aC 0) N) (funext fun j => ?_))
    have e9 : M G.length (j : Int) = 0 := (hM G.length j).2.2 (Nat.le_refl _)
    rw [e9]
    rfl
  have hH1 := jHp_new (ks := [(0, N, [])]) hH (H1 := H1) (fun i kd hi => by
    cases i with
    | zero => cases hi; exact hE
    | succ i => cases hi) (by rw [z1]; show _ = H.size + 1; rw [hHs]) (fun q hq => o1 q (by rw [← hHs]; exact hq))
  exact kk D aC p e R s m args below meth c Φ hc he H1 locs (cells + 1) (slots + N) ls ⟨hH1, hl, hLn, hLo, trivial, hSo.2⟩
theorem J_newaL {n : Int} {N : Nat} (hd : decode mm.2.1 pc = .ok (.newarray .long, 2)) (hw : Cond.arrayClass .long ∈ jW) (hN : n = (N : Int)) (hb : N * 8 ≤ 536870912) (kk : J l z X d mm a (pc + 2) L (jR G.length :: S) (G ++ [(1, N, [])], M) Q) : J l z X d mm (a.1 + 1, a.2 + N) pc L (jI n :: S) (G, M) Q := by
  intro D aC p e R s m args below meth c Φ hc he H locs cells slots ls ha
  obtain ⟨hH, hl, hLn, hLo, hSo⟩ := id ha
  obtain ⟨hHs, hP, hS, hcl0, hsl0, hM⟩ := id hH
  obtain ⟨hx, hbb, hml, hr, hlk, hown, hnm, hts, hkn, hdfr, hdl, hz, -⟩ := id hc
  have g4 : cells + (a.1 + 1) ≤ R.cells := hcl0
  have g5 : slots + (a.2 + N) ≤ R.slots := hsl0
  have hni : (Int32.ofInt n).toNatClampNeg = N := by rw [j32_ix (n := N) (by omega) hSo.1, hN]; simp
  refine va_newaK hx hbb (atype := .long) (hts _ hw) rfl hd rfl (by rw [Int32.lt_iff_toInt_lt, j32 hSo.1]; show ¬ n < (0 : Int32).toInt; rw [show (0 : Int32).toInt = 0 by decide]; omega) hni (Nat.le_trans (Nat.mul_le_mul_left N (show componentBytes (newarray.typeOf .long) ≤ 8 by decide +kernel)) hb) (by omega) (by omega) (h := z + G.length) hHs fun H1 cA e1 z1 o1 hAr hNm => ?_
  have hcA : cA = aC 1 := by
    have h9 := (hkn.2.2 1 _ rfl).2
    have h8 : s.vm.findClass ("[" ++ (.long : FieldType).toString) = some (aC 1) := h9
    exact Option.some.inj (hNm.symm.trans h8)
  subst hcA
  have hE : va_at D vwCl (z + G.length, jent z aC (1, N, []) (M G.length)) H1 := by
    show H1[z + G.length]? = some (vp_cell (aC 1) (N, .inr (.inl (fun j => Int64.ofInt (M G.length j)))))
    rw [e1, vp_cell_l]
    refine congrArg some (congrArg (arrV (aC 1) N) (funext fun j => ?_))
    have e9 : M G.length (j : Int) = 0 := (hM G.length j).2.2 (Nat.le_refl _)
    rw [e9]
    rfl
  have hH1 := jHp_new (ks := [(1, N, [])]) hH (H1 := H1) (fun i kd hi => by
    cases i with
    | zero => cases hi; exact hE
    | succ i => cases hi) (by rw [z1]; show _ = H.size + 1; rw [hHs]) (fun q hq => o1 q (by rw [← hHs]; exact hq))
  exact kk D aC p e R s m args below meth c Φ hc he H1 locs (cells + 1) (slots + N) ls ⟨hH1, hl, hLn, hLo, trivial, hSo.2⟩
theorem J_newaZ {n : Int} {N : Nat} (hd : decode mm.2.1 pc = .ok (.newarray .boolean, 2)) (hw : Cond.arrayClass .boolean ∈ jW) (hN : n = (N : Int)) (hb : N * 8 ≤ 536870912) (kk : J l z X d mm a (pc + 2) L (jR G.length :: S) (G ++ [(2, N, [])], M) Q) : J l z X d mm (a.1 + 1, a.2 + N) pc L (jI n :: S) (G, M) Q := by
  intro D aC p e R s m args below meth c Φ hc he H locs cells slots ls ha
  obtain ⟨hH, hl, hLn, hLo, hSo⟩ := id ha
  obtain ⟨hHs, hP, hS, hcl0, hsl0, hM⟩ := id hH
  obtain ⟨hx, hbb, hml, hr, hlk, hown, hnm, hts, hkn, hdfr, hdl, hz, -⟩ := id hc
  have g4 : cells + (a.1 + 1) ≤ R.cells := hcl0
  have g5 : slots + (a.2 + N) ≤ R.slots := hsl0
  have hni : (Int32.ofInt n).toNatClampNeg = N := by rw [j32_ix (n := N) (by omega) hSo.1, hN]; simp
  refine va_newaK hx hbb (atype := .boolean) (hts _ hw) rfl hd rfl (by rw [Int32.lt_iff_toInt_lt, j32 hSo.1]; show ¬ n < (0 : Int32).toInt; rw [show (0 : Int32).toInt = 0 by decide]; omega) hni (Nat.le_trans (Nat.mul_le_mul_left N (show componentBytes (newarray.typeOf .boolean) ≤ 8 by decide +kernel)) hb) (by omega) (by omega) (h := z + G.length) hHs fun H1 cA e1 z1 o1 hAr hNm => ?_
  have hcA : cA = aC 2 := by
    have h9 := (hkn.2.2 2 _ rfl).2
    have h8 : s.vm.findClass ("[" ++ (.boolean : FieldType).toString) = some (aC 2) := h9
    exact Option.some.inj (hNm.symm.trans h8)
  subst hcA
  have hE : va_at D vwCl (z + G.length, jent z aC (2, N, []) (M G.length)) H1 := by
    show H1[z + G.length]? = some (vp_cell (aC 2) (N, .inl (fun j => Int32.ofInt (M G.length j))))
    rw [e1, vp_cell_i]
    refine congrArg some (congrArg (arrV (aC 2) N) (funext fun j => ?_))
    have e9 : M G.length (j : Int) = 0 := (hM G.length j).2.2 (Nat.le_refl _)
    rw [e9]
    rfl
  have hH1 := jHp_new (ks := [(2, N, [])]) hH (H1 := H1) (fun i kd hi => by
    cases i with
    | zero => cases hi; exact hE
    | succ i => cases hi) (by rw [z1]; show _ = H.size + 1; rw [hHs]) (fun q hq => o1 q (by rw [← hHs]; exact hq))
  exact kk D aC p e R s m args below meth c Φ hc he H1 locs (cells + 1) (slots + N) ls ⟨hH1, hl, hLn, hLo, trivial, hSo.2⟩
theorem J_anew4 {n : Int} {N index : Nat} (hd : decode mm.2.1 pc = .ok (.anewarray index, 3)) (hw : Cond.classLink mm.1.cls index RX2 ∈ jW) (hov : Cond.arrayOver (.object RX2) ∈ jNW) (hN : n = (N : Int)) (hb : N * 4 ≤ 536870912) (kk : J l z X d mm a (pc + 3) L (jR G.length :: S) (G ++ [(4, N, List.replicate N none)], M) Q) : J l z X d mm (a.1 + 1, a.2 + N) pc L (jI n :: S) (G, M) Q := by
  intro D aC p e R s m args below meth c Φ hc he H locs cells slots ls ha
  obtain ⟨hH, hl, hLn, hLo, hSo⟩ := id ha
  obtain ⟨hHs, hP, hS, hcl0, hsl0, hM⟩ := id hH
  obtain ⟨hx, hbb, hml, hr, hlk, hown, hnm, hts, hkn, hdfr, hdl, hz, -⟩ := id hc
  have g4 : cells + (a.1 + 1) ≤ R.cells := hcl0
  have g5 : slots + (a.2 + N) ≤ R.slots := hsl0
  have hni : (Int32.ofInt n).toNatClampNeg = N := by rw [j32_ix (n := N) (by omega) hSo.1, hN]; simp
  refine W.anew hx hbb hown (hts _ hw) (va_AO.use (hkn.1 _ hov)) rfl hd rfl (by rw [Int32.lt_iff_toInt_lt, j32 hSo.1]; show ¬ n < (0 : Int32).toInt; rw [show (0 : Int32).toInt = 0 by decide]; omega) (by rw [hni]; exact hb) (by omega) (by rw [hni]; omega) fun cA kA comp f1 f2 f3 f4 => ?_
  have hcA : cA = aC 4 := by
    obtain ⟨_, _, _, _, _, h8⟩ := (hkn.2.2 4 _ rfl).2
    exact Option.some.inj (f1.symm.trans h8)
  subst hcA
  rw [hni]
  generalize hH1g : H.push ({ cls := aC 4, slots := Array.replicate N .null, vm := .none } : Cell) = H1
  have z1 : H1.size = H.size + 1 := by rw [← hH1g, Array.size_push]
  have e1 : H1[H.size]? = some (arrV (aC 4) N (fun _ => .null)) := by rw [← hH1g, Array.getElem?_push_size, ← arrV_new]
  have o1 : ∀ q : Nat, q < H.size → H1[q]? = H[q]? := fun q hq => by rw [← hH1g, Array.getElem?_push, if_neg (Nat.ne_of_lt hq)]
  rw [hHs] at e1
  have hE : va_at D vwCl (z + G.length, jent z aC (4, N, List.replicate N none) (M G.length)) H1 := by
    show H1[z + G.length]? = some (vp_cell (aC 4) (N, .inr (.inr (.inr (.inr (jrf z (List.replicate N none)))))))
    rw [e1, vp_cell_q]
    refine congrArg some (congrArg (arrV (aC 4) N) (funext fun j => ?_))
    unfold jrf
    rw [List.getD_eq_getElem?_getD]
    by_cases hj : j < N
    · simp [hj, va_rf]
    · simp [hj, va_rf]
  have hH1 := jHp_new (ks := [(4, N, List.replicate N none)]) hH (H1 := H1) (fun i kd hi => by
    cases i with
    | zero => cases hi; exact hE
    | succ i => cases hi) z1 o1
  have k1 := kk D aC p e R s m args below meth c Φ hc he H1 locs (cells + 1) (slots + N) ls ⟨hH1, hl, hLn, hLo, trivial, hSo.2⟩
  rw [hHs]
  exact k1
theorem J_aast4 {n h h' ci nf : Nat} {i : Int} {rs rs' : List (Option Nat)} {T : u_T} (hd : decode mm.2.1 pc = .ok (.aastore, 1)) (hG : G[h]? = some (4, n, rs)) (h0 : 0 ≤ i) (h1 : i < n) (hrl : rs.length = n) (hv : G[h']? = some (ci + 5, nf, rs')) (hcl : vwCl[ci]? = some (RX2, T, nf)) (kk : J l z X d mm a (pc + 1) L S (G.set h (4, n, rs.set i.toNat (some h')), M) Q) : J l z X d mm a pc L (jR h' :: jI i :: jR h :: S) (G, M) Q := by
  intro D aC p e R s m args below meth c Φ hc he H locs cells slots ls ha
  obtain ⟨hH, hl, hLn, hLo, hSo⟩ := id ha
  obtain ⟨hHs, hP, hS, hcl0, hsl0, hM⟩ := id hH
  obtain ⟨hx, hbb, hml, hr, hlk, hown, hnm, hts, hkn, hdfr, hdl, hz, -⟩ := id hc
  have hi : (Int32.ofInt i).toNatClampNeg = i.toNat := j32_ix (n := n) h0 hSo.2.1
  have hin := j32_in h0 h1 hSo.2.1
  have hlt : (Int32.ofInt i).toNatClampNeg < n := Nat.not_le.mp fun q => hin (Or.inr q)
  have hn0 : ¬ Int32.ofInt i < 0 := fun q => hin (Or.inl q)
  obtain ⟨r', hr', cellV, g1, g2, g3, -⟩ := hP h' _ (jws_get hv)
  have hcls := (hkn.2.1 ci _ hcl).2
  obtain ⟨kA, comp, k1, k2, k3, -⟩ := (hkn.2.2 4 _ rfl).2
  have hcomp : comp = D.1 ci := Option.some.inj (k3.symm.trans hcls.1)
  subst hcomp
  obtain ⟨kC, hkC, -⟩ := hcls.2
  refine W.aast hx hbb (hP h _ (jws_get hG)) (fun q h => by cases h) (fun h => by cases h) k1 k2 rfl hkC ⟨hn0, by show _ < (arrV _ _ _).slots.size; rw [arrV_size]; exact hlt⟩ g1 (fun q h => by rw [g3] at h; cases h) (by rw [g2]; exact hkC) (by rw [g2]; exact va_assign hcls) rfl rfl hd fun H1 e1 e2 e3 => ?_
  have hE : va_at D vwCl (z + h, Sum.inl (aC 4, n, .inr (.inr (.inr (.inr (jrf z (rs.set i.toNat (some h')))))))) H1 := by
    show H1[z + h]? = some (vp_cell _ _)
    rw [e1]
    show some (Cell.setSlot (arrV _ _ _) _ _) = _
    rw [vp_cell_q, arrV_store]
    congr 2
    funext q
    rw [hi]
    rw [hi] at hlt
    by_cases hq : q = i.toNat
    · subst hq
      simp [updV, jrf, va_rf, List.getD_eq_getElem?_getD, hrl, hlt]
    · simp [updV, hq, jrf, List.getD_eq_getElem?_getD, List.getElem?_set_ne (Ne.symm hq)]
  have hl0 := (List.getElem?_eq_some_iff.mp hG).1
  have hG1 : (G.set h (4, n, rs.set i.toNat (some h'))).getD h (0, 0, []) = (4, n, rs.set i.toNat (some h')) := jget0 (by rw [List.getElem?_set_self hl0])
  have hG2 : ∀ j, j ≠ h → (G.set h (4, n, rs.set i.toNat (some h'))).getD j (0, 0, []) = G.getD j (0, 0, []) := fun j hj => by rw [List.getD_eq_getElem?_getD, List.getD_eq_getElem?_getD, List.getElem?_set_ne (Ne.symm hj)]
  have hH1 := jHp_put (i := (Int32.ofInt i).toNatClampNeg) (G' := G.set h (4, n, rs.set i.toNat (some h'))) (M' := M) (kd' := (4, n, rs.set i.toNat (some h'))) hH hG hE e2 e3 (List.length_set) hG1 rfl (fun j hj => ⟨hG2 j hj, rfl⟩) (by
    intro k' j
    have h9 : jlen (G.set h (4, n, rs.set i.toNat (some h'))) k' = jlen G k' := by
      unfold jlen
      by_cases hkh : k' = h
      · subst hkh; rw [hG1, jget0 hG]
      · rw [hG2 k' hkh]
    dsimp only
    rw [h9, List.length_set]
    exact hM k' j)
  exact kk D aC p e R s m args below meth c Φ hc he H1 _ cells slots ls ⟨hH1, hl, hLn, hLo, hSo.2.2.2⟩
end ALLOC
end
section
/-! ## Math.max, Math.min; a long comparison with its branch -/
section MATHR
variable {l : Launch} {z : Nat} {X : jX} {d : Nat} {mm : jMt} {a : Nat × Nat} {pc : Nat} {L S : List jV} {μ : jM} {Q : Option jV → jM → Prop}
theorem jIn_max {x y : Int} (hx : jIn x) (hy : jIn y) : jIn (max x y) := by
  have h1 := hx.1; have h2 := hx.2; have h3 := hy.1; have h4 := hy.2
  exact ⟨by omega, by omega⟩
theorem jIn_min {x y : Int} (hx : jIn x) (hy : jIn y) : jIn (min x y) := by
  have h1 := hx.1; have h2 := hx.2; have h3 := hy.1; have h4 := hy.2
  exact ⟨by omega, by omega⟩
theorem J_mmax {index : Nat} {x y : Int} (hd : decode mm.2.1 pc = .ok (.invokestatic index, 3)) (hw : Cond.methodLink mm.1.cls index Lib.Math.max.name ∈ jW) (hst : Cond.static Lib.Math.max.name ∈ jW) (hini : Cond.initialized "java/lang/Math" ∈ jW) (hcode : Cond.code Lib.Math.max.name Lib.Math.max.code 2 (some .int) ∈ jW) (hd1 : 1 ≤ d) (hcat : (S.map jcat).sum ≤ 8)
    (kk : J l z X d mm a (pc + 3) L (jI (max x y) :: S) μ Q) : J l z X d mm a pc L (jI y :: jI x :: S) μ Q := by
  intro D aC p e R s m args below meth c Φ hc he H locs cells slots ls ha
  obtain ⟨hH, hl, hLn, hLo, hSo⟩ := id ha
  obtain ⟨hHs, hP, hS, hcl0, hsl0, hM⟩ := id hH
  obtain ⟨hx, hb, hml, hr, hlk, hown, hnm, hts, hkn, hdf, hdl, hz, -⟩ := id hc
  refine va_mmax hx hb (by rw [hml]; exact hl.1.symm) hown (hts _ hw) (hts _ hst) (hts _ hini) (hts _ hcode) (Nat.le_trans hd1 hdf) (by rw [jcats]; omega) (Nat.le_trans (Nat.le_add_right _ _) hcl0) (Nat.le_trans (Nat.le_add_right _ _) hsl0) hd ?_
  have e9 : (if Int32.ofInt x < Int32.ofInt y then Int32.ofInt y else Int32.ofInt x) = Int32.ofInt (max x y) := by
    have e8 := j32_lt hSo.2.1 hSo.1
    by_cases q : x < y
    · rw [if_pos (e8.mpr q), show max x y = y by omega]
    · rw [if_neg (fun r => q (e8.mp r)), show max x y = x by omega]
  rw [e9]
  exact kk D aC p e R s m args below meth c Φ hc he H locs cells slots ls ⟨hH, hl, hLn, hLo, jIn_max hSo.2.1 hSo.1, hSo.2.2⟩
theorem J_mmin {index : Nat} {x y : Int} (hd : decode mm.2.1 pc = .ok (.invokestatic index, 3)) (hw : Cond.methodLink mm.1.cls index Lib.Math.min.name ∈ jW) (hst : Cond.static Lib.Math.min.name ∈ jW) (hini : Cond.initialized "java/lang/Math" ∈ jW) (hcode : Cond.code Lib.Math.min.name Lib.Math.min.code 2 (some .int) ∈ jW) (hd1 : 1 ≤ d) (hcat : (S.map jcat).sum ≤ 8)
    (kk : J l z X d mm a (pc + 3) L (jI (min x y) :: S) μ Q) : J l z X d mm a pc L (jI y :: jI x :: S) μ Q := by
  intro D aC p e R s m args below meth c Φ hc he H locs cells slots ls ha
  obtain ⟨hH, hl, hLn, hLo, hSo⟩ := id ha
  obtain ⟨hHs, hP, hS, hcl0, hsl0, hM⟩ := id hH
  obtain ⟨hx, hb, hml, hr, hlk, hown, hnm, hts, hkn, hdf, hdl, hz, -⟩ := id hc
  refine va_mmin hx hb (by rw [hml]; exact hl.1.symm) hown (hts _ hw) (hts _ hst) (hts _ hini) (hts _ hcode) (Nat.le_trans hd1 hdf) (by rw [jcats]; omega) (Nat.le_trans (Nat.le_add_right _ _) hcl0) (Nat.le_trans (Nat.le_add_right _ _) hsl0) hd ?_
  have e9 : (if Int32.ofInt y < Int32.ofInt x then Int32.ofInt y else Int32.ofInt x) = Int32.ofInt (min x y) := by
    have e7 := j32_lt hSo.1 hSo.2.1
    by_cases q : y < x
    · rw [if_pos (e7.mpr q), show min x y = y by omega]
    · rw [if_neg (fun r => q (e7.mp r)), show min x y = x by omega]
  rw [e9]
  exact kk D aC p e R s m args below meth c Φ hc he H locs cells slots ls ⟨hH, hl, hLn, hLo, jIn_min hSo.2.1 hSo.1, hSo.2.2⟩
theorem J_mmaxL {index : Nat} {x y : Int} (hd : decode mm.2.1 pc = .ok (.invokestatic index, 3)) (hw : Cond.methodLink mm.1.cls index Lib.MathLoose.max_long.x ∈ jW) (hst : Cond.static Lib.MathLoose.max_long.x ∈ jW) (hini : Cond.initialized "java/lang/Math" ∈ jW) (hcode : Cond.code Lib.MathLoose.max_long.x Lib.MathLoose.max_long.code 4 (some .long) ∈ jW) (hd1 : 1 ≤ d) (hcat : (S.map jcat).sum ≤ 8)
    (kk : J l z X d mm a (pc + 3) L (jL (max x y) :: S) μ Q) : J l z X d mm a pc L (jL y :: jL x :: S) μ Q := by
  intro D aC p e R s m args below meth c Φ hc he H locs cells slots ls ha
  obtain ⟨hH, hl, hLn, hLo, hSo⟩ := id ha
  obtain ⟨hHs, hP, hS, hcl0, hsl0, hM⟩ := id hH
  obtain ⟨hx, hb, hml, hr, hlk, hown, hnm, hts, hkn, hdf, hdl, hz, -⟩ := id hc
  refine va_mmax_long hx hb (by rw [hml]; exact hl.1.symm) hown (hts _ hw) (hts _ hst) (hts _ hini) (hts _ hcode) (Nat.le_trans hd1 hdf) (by rw [jcats]; omega) (Nat.le_trans (Nat.le_add_right _ _) hcl0) (Nat.le_trans (Nat.le_add_right _ _) hsl0) hd ?_
  have e9 : (if Int64.ofInt y < Int64.ofInt x then Int64.ofInt x else Int64.ofInt y) = Int64.ofInt (max x y) := by
    have e8 : Int64.ofInt y < Int64.ofInt x ↔ y < x := by rw [Int64.lt_iff_toInt_lt, j64 hSo.1, j64 hSo.2.1]
    by_cases q : y < x
    · rw [if_pos (e8.mpr q), show max x y = x by omega]
    · rw [if_neg (fun r => q (e8.mp r)), show max x y = y by omega]
  rw [e9]
  have h1 := hSo.1.1; have h2 := hSo.1.2; have h3 := hSo.2.1.1; have h4 := hSo.2.1.2
  exact kk D aC p e R s m args below meth c Φ hc he H locs cells slots ls ⟨hH, hl, hLn, hLo, ⟨by omega, by omega⟩, hSo.2.2⟩
theorem J_lif_eq {x y off : Int} {tgt : Nat} (hd : decode mm.2.1 pc = .ok (.lcmp, 1)) (hd2 : decode mm.2.1 (pc + 1) = .ok (.ifCond .eq off, 3)) (ht : ((pc + 1 : Nat) : Int) + off = (tgt : Int)) (kt : x = y → J l z X d mm a tgt L S μ Q) (kf : x ≠ y → J l z X d mm a (pc + 1 + 3) L S μ Q) : J l z X d mm a pc L (jL y :: jL x :: S) μ Q := by
  refine J_lcmp hd (J_if_eq hd2 ht (fun h => kt ?_) (fun h => kf ?_))
  all_goals (split at h <;> first | omega | (split at h <;> omega))
theorem J_lif_ne {x y off : Int} {tgt : Nat} (hd : decode mm.2.1 pc = .ok (.lcmp, 1)) (hd2 : decode mm.2.1 (pc + 1) = .ok (.ifCond .ne off, 3)) (ht : ((pc + 1 : Nat) : Int) + off = (tgt : Int)) (kt : x ≠ y → J l z X d mm a tgt L S μ Q) (kf : x = y → J l z X d mm a (pc + 1 + 3) L S μ Q) : J l z X d mm a pc L (jL y :: jL x :: S) μ Q := by
  refine J_lcmp hd (J_if_ne hd2 ht (fun h => kt ?_) (fun h => kf ?_))
  all_goals (split at h <;> first | omega | (split at h <;> omega))
theorem J_lif_lt {x y off : Int} {tgt : Nat} (hd : decode mm.2.1 pc = .ok (.lcmp, 1)) (hd2 : decode mm.2.1 (pc + 1) = .ok (.ifCond .lt off, 3)) (ht : ((pc + 1 : Nat) : Int) + off = (tgt : Int)) (kt : x < y → J l z X d mm a tgt L S μ Q) (kf : y ≤ x → J l z X d mm a (pc + 1 + 3) L S μ Q) : J l z X d mm a pc L (jL y :: jL x :: S) μ Q := by
  refine J_lcmp hd (J_if_lt hd2 ht (fun h => kt ?_) (fun h => kf ?_))
  all_goals (split at h <;> first | omega | (split at h <;> omega))
theorem J_lif_ge {x y off : Int} {tgt : Nat} (hd : decode mm.2.1 pc = .ok (.lcmp, 1)) (hd2 : decode mm.2.1 (pc + 1) = .ok (.ifCond .ge off, 3)) (ht : ((pc + 1 : Nat) : Int) + off = (tgt : Int)) (kt : y ≤ x → J l z X d mm a tgt L S μ Q) (kf : x < y → J l z X d mm a (pc + 1 + 3) L S μ Q) : J l z X d mm a pc L (jL y :: jL x :: S) μ Q := by
  refine J_lcmp hd (J_if_ge hd2 ht (fun h => kt ?_) (fun h => kf ?_))
  all_goals (split at h <;> first | omega | (split at h <;> omega))
theorem J_lif_gt {x y off : Int} {tgt : Nat} (hd : decode mm.2.1 pc = .ok (.lcmp, 1)) (hd2 : decode mm.2.1 (pc + 1) = .ok (.ifCond .gt off, 3)) (ht : ((pc + 1 : Nat) : Int) + off = (tgt : Int)) (kt : y < x → J l z X d mm a tgt L S μ Q) (kf : x ≤ y → J l z X d mm a (pc + 1 + 3) L S μ Q) : J l z X d mm a pc L (jL y :: jL x :: S) μ Q := by
  refine J_lcmp hd (J_if_gt hd2 ht (fun h => kt ?_) (fun h => kf ?_))
  all_goals (split at h <;> first | omega | (split at h <;> omega))
theorem J_lif_le {x y off : Int} {tgt : Nat} (hd : decode mm.2.1 pc = .ok (.lcmp, 1)) (hd2 : decode mm.2.1 (pc + 1) = .ok (.ifCond .le off, 3)) (ht : ((pc + 1 : Nat) : Int) + off = (tgt : Int)) (kt : x ≤ y → J l z X d mm a tgt L S μ Q) (kf : y < x → J l z X d mm a (pc + 1 + 3) L S μ Q) : J l z X d mm a pc L (jL y :: jL x :: S) μ Q := by
  refine J_lcmp hd (J_if_le hd2 ht (fun h => kt ?_) (fun h => kf ?_))
  all_goals (split at h <;> first | omega | (split at h <;> omega))
end MATHR
end
section
/-! ## tables: the cells as the constructors lay them, the constants, the methods, the words -/
def jG : List jKd := [
  (13, 8, [some 1, some 6, some 11, some 19, some 66, some 68, some 71, some 77]),
  (6, 8, [some 2, some 3, some 4, some 5, none, none, none, none]),
  (0, 6, []),
  (0, 6, []),
  (0, 6, []),
  (0, 6, []),
  (9, 6, [some 7, some 8, some 9, some 10, none, none]),
  (0, 60, []),
  (0, 60, []),
  (0, 60, []),
  (0, 60, []),
  (5, 8, [some 12, some 17, some 18, none, none, none, none, none]),
  (6, 8, [some 13, some 14, some 15, some 16, none, none, none, none]),
  (0, 6, []),
  (0, 6, []),
  (0, 6, []),
  (0, 6, []),
  (0, 6, []),
  (0, 60, []),
  (8, 11, [some 20, some 21, some 43, some 44, some 63, some 64, some 65, none, none, none, none]),
  (0, 3, []),
  (3, 21, [some 22, some 23, some 24, some 25, some 26, some 27, some 28, some 29, some 30, some 31, some 32, some 33, some 34, some 35, some 36, some 37, some 38, some 39, some 40, some 41, some 42]),
  (0, 13, []),
  (0, 13, []),
  (0, 13, []),
  (0, 13, []),
  (0, 13, []),
  (0, 13, []),
  (0, 13, []),
  (0, 13, []),
  (0, 13, []),
  (0, 13, []),
  (0, 13, []),
  (0, 13, []),
  (0, 13, []),
  (0, 13, []),
  (0, 13, []),
  (0, 13, []),
  (0, 13, []),
  (0, 13, []),
  (0, 13, []),
  (0, 13, []),
  (0, 13, []),
  (0, 21, []),
  (3, 18, [some 45, some 46, some 47, some 48, some 49, some 50, some 51, some 52, some 53, some 54, some 55, some 56, some 57, some 58, some 59, some 60, some 61, some 62]),
  (0, 39, []),
  (0, 39, []),
  (0, 39, []),
  (0, 39, []),
  (0, 39, []),
  (0, 39, []),
  (0, 39, []),
  (0, 39, []),
  (0, 39, []),
  (0, 39, []),
  (0, 39, []),
  (0, 39, []),
  (0, 39, []),
  (0, 39, []),
  (0, 39, []),
  (0, 39, []),
  (0, 39, []),
  (0, 39, []),
  (0, 2556, []),
  (0, 7, []),
  (0, 18, []),
  (10, 3, [some 67, none, none]),
  (0, 6, []),
  (11, 3, [some 69, some 70, none]),
  (0, 8, []),
  (0, 8, []),
  (12, 2, [some 72, none]),
  (6, 8, [some 73, some 74, some 75, some 76, none, none, none, none]),
  (0, 6, []),
  (0, 6, []),
  (0, 6, []),
  (0, 6, []),
  (4, 2, [some 78, some 87]),
  (7, 3, [some 79, some 84, none]),
  (6, 8, [some 80, some 81, some 82, some 83, none, none, none, none]),
  (0, 6, []),
  (0, 6, []),
  (0, 6, []),
  (0, 6, []),
  (11, 3, [some 85, some 86, none]),
  (0, 8, []),
  (0, 8, []),
  (7, 3, [some 88, some 93, none]),
  (6, 8, [some 89, some 90, some 91, some 92, none, none, none, none]),
  (0, 6, []),
  (0, 6, []),
  (0, 6, []),
  (0, 6, []),
  (11, 3, [some 94, some 95, none]),
  (0, 8, []),
  (0, 8, []),
  (14, 38, [none, none, none, none, some 97, some 98, some 99, some 100, some 101, some 102, none, some 103, none, some 104, some 105, some 106, none, none, none, none, some 107, some 108, some 109, none, none, some 110, some 111, some 112, some 113, some 114, some 115, some 116, some 117, some 118, some 119, some 120, none, none]),
  (0, 6, []),
  (0, 6, []),
  (0, 6, []),
  (0, 6, []),
  (0, 8, []),
  (0, 8, []),
  (0, 60, []),
  (0, 60, []),
  (0, 60, []),
  (0, 60, []),
  (0, 100, []),
  (0, 6, []),
  (0, 15, []),
  (0, 3, []),
  (0, 78, []),
  (0, 3, []),
  (0, 234, []),
  (0, 123032, []),
  (0, 3, []),
  (0, 6, []),
  (1, 100, []),
  (1, 100, []),
  (0, 120, []),
  (2, 2, [])]
theorem g_0 : jG[0]? = some (13, 8, [some 1, some 6, some 11, some 19, some 66, some 68, some 71, some 77]) := rfl
theorem g_1 : jG[1]? = some (6, 8, [some 2, some 3, some 4, some 5, none, none, none, none]) := rfl
theorem g_2 : jG[2]? = some (0, 6, []) := rfl
theorem g_3 : jG[3]? = some (0, 6, []) := rfl
theorem g_4 : jG[4]? = some (0, 6, []) := rfl
theorem g_5 : jG[5]? = some (0, 6, []) := rfl
theorem g_6 : jG[6]? = some (9, 6, [some 7, some 8, some 9, some 10, none, none]) := rfl
theorem g_7 : jG[7]? = some (0, 60, []) := rfl
theorem g_8 : jG[8]? = some (0, 60, []) := rfl
theorem g_9 : jG[9]? = some (0, 60, []) := rfl
theorem g_10 : jG[10]? = some (0, 60, []) := rfl
theorem g_11 : jG[11]? = some (5, 8, [some 12, some 17, some 18, none, none, none, none, none]) := rfl
theorem g_12 : jG[12]? = some (6, 8, [some 13, some 14, some 15, some 16, none, none, none, none]) := rfl
theorem g_13 : jG[13]? = some (0, 6, []) := rfl
theorem g_14 : jG[14]? = some (0, 6, []) := rfl
theorem g_15 : jG[15]? = some (0, 6, []) := rfl
theorem g_16 : jG[16]? = some (0, 6, []) := rfl
theorem g_17 : jG[17]? = some (0, 6, []) := rfl
theorem g_18 : jG[18]? = some (0, 60, []) := rfl
theorem g_19 : jG[19]? = some (8, 11, [some 20, some 21, some 43, some 44, some 63, some 64, some 65, none, none, none, none]) := rfl
theorem g_20 : jG[20]? = some (0, 3, []) := rfl
theorem g_21 : jG[21]? = some (3, 21, [some 22, some 23, some 24, some 25, some 26, some 27, some 28, some 29, some 30, some 31, some 32, some 33, some 34, some 35, some 36, some 37, some 38, some 39, some 40, some 41, some 42]) := rfl
theorem g_22 : jG[22]? = some (0, 13, []) := rfl
theorem g_23 : jG[23]? = some (0, 13, []) := rfl
theorem g_24 : jG[24]? = some (0, 13, []) := rfl
theorem g_25 : jG[25]? = some (0, 13, []) := rfl
theorem g_26 : jG[26]? = some (0, 13, []) := rfl
theorem g_27 : jG[27]? = some (0, 13, []) := rfl
theorem g_28 : jG[28]? = some (0, 13, []) := rfl
theorem g_29 : jG[29]? = some (0, 13, []) := rfl
theorem g_30 : jG[30]? = some (0, 13, []) := rfl
theorem g_31 : jG[31]? = some (0, 13, []) := rfl
theorem g_32 : jG[32]? = some (0, 13, []) := rfl
theorem g_33 : jG[33]? = some (0, 13, []) := rfl
theorem g_34 : jG[34]? = some (0, 13, []) := rfl
theorem g_35 : jG[35]? = some (0, 13, []) := rfl
theorem g_36 : jG[36]? = some (0, 13, []) := rfl
theorem g_37 : jG[37]? = some (0, 13, []) := rfl
theorem g_38 : jG[38]? = some (0, 13, []) := rfl
theorem g_39 : jG[39]? = some (0, 13, []) := rfl
theorem g_40 : jG[40]? = some (0, 13, []) := rfl
theorem g_41 : jG[41]? = some (0, 13, []) := rfl
theorem g_42 : jG[42]? = some (0, 13, []) := rfl
theorem g_43 : jG[43]? = some (0, 21, []) := rfl
theorem g_44 : jG[44]? = some (3, 18, [some 45, some 46, some 47, some 48, some 49, some 50, some 51, some 52, some 53, some 54, some 55, some 56, some 57, some 58, some 59, some 60, some 61, some 62]) := rfl
theorem g_45 : jG[45]? = some (0, 39, []) := rfl
theorem g_46 : jG[46]? = some (0, 39, []) := rfl
theorem g_47 : jG[47]? = some (0, 39, []) := rfl
theorem g_48 : jG[48]? = some (0, 39, []) := rfl
theorem g_49 : jG[49]? = some (0, 39, []) := rfl
theorem g_50 : jG[50]? = some (0, 39, []) := rfl
theorem g_51 : jG[51]? = some (0, 39, []) := rfl
theorem g_52 : jG[52]? = some (0, 39, []) := rfl
theorem g_53 : jG[53]? = some (0, 39, []) := rfl
theorem g_54 : jG[54]? = some (0, 39, []) := rfl
theorem g_55 : jG[55]? = some (0, 39, []) := rfl
theorem g_56 : jG[56]? = some (0, 39, []) := rfl
theorem g_57 : jG[57]? = some (0, 39, []) := rfl
theorem g_58 : jG[58]? = some (0, 39, []) := rfl
theorem g_59 : jG[59]? = some (0, 39, []) := rfl
theorem g_60 : jG[60]? = some (0, 39, []) := rfl
theorem g_61 : jG[61]? = some (0, 39, []) := rfl
theorem g_62 : jG[62]? = some (0, 39, []) := rfl
theorem g_63 : jG[63]? = some (0, 2556, []) := rfl
theorem g_64 : jG[64]? = some (0, 7, []) := rfl
theorem g_65 : jG[65]? = some (0, 18, []) := rfl
theorem g_66 : jG[66]? = some (10, 3, [some 67, none, none]) := rfl
theorem g_67 : jG[67]? = some (0, 6, []) := rfl
theorem g_68 : jG[68]? = some (11, 3, [some 69, some 70, none]) := rfl
theorem g_69 : jG[69]? = some (0, 8, []) := rfl
theorem g_70 : jG[70]? = some (0, 8, []) := rfl
theorem g_71 : jG[71]? = some (12, 2, [some 72, none]) := rfl
theorem g_72 : jG[72]? = some (6, 8, [some 73, some 74, some 75, some 76, none, none, none, none]) := rfl
theorem g_73 : jG[73]? = some (0, 6, []) := rfl
theorem g_74 : jG[74]? = some (0, 6, []) := rfl
theorem g_75 : jG[75]? = some (0, 6, []) := rfl
theorem g_76 : jG[76]? = some (0, 6, []) := rfl
theorem g_77 : jG[77]? = some (4, 2, [some 78, some 87]) := rfl
theorem g_78 : jG[78]? = some (7, 3, [some 79, some 84, none]) := rfl
theorem g_79 : jG[79]? = some (6, 8, [some 80, some 81, some 82, some 83, none, none, none, none]) := rfl
theorem g_80 : jG[80]? = some (0, 6, []) := rfl
theorem g_81 : jG[81]? = some (0, 6, []) := rfl
theorem g_82 : jG[82]? = some (0, 6, []) := rfl
theorem g_83 : jG[83]? = some (0, 6, []) := rfl
theorem g_84 : jG[84]? = some (11, 3, [some 85, some 86, none]) := rfl
theorem g_85 : jG[85]? = some (0, 8, []) := rfl
theorem g_86 : jG[86]? = some (0, 8, []) := rfl
theorem g_87 : jG[87]? = some (7, 3, [some 88, some 93, none]) := rfl
theorem g_88 : jG[88]? = some (6, 8, [some 89, some 90, some 91, some 92, none, none, none, none]) := rfl
theorem g_89 : jG[89]? = some (0, 6, []) := rfl
theorem g_90 : jG[90]? = some (0, 6, []) := rfl
theorem g_91 : jG[91]? = some (0, 6, []) := rfl
theorem g_92 : jG[92]? = some (0, 6, []) := rfl
theorem g_93 : jG[93]? = some (11, 3, [some 94, some 95, none]) := rfl
theorem g_94 : jG[94]? = some (0, 8, []) := rfl
theorem g_95 : jG[95]? = some (0, 8, []) := rfl
theorem g_96 : jG[96]? = some (14, 38, [none, none, none, none, some 97, some 98, some 99, some 100, some 101, some 102, none, some 103, none, some 104, some 105, some 106, none, none, none, none, some 107, some 108, some 109, none, none, some 110, some 111, some 112, some 113, some 114, some 115, some 116, some 117, some 118, some 119, some 120, none, none]) := rfl
theorem g_97 : jG[97]? = some (0, 6, []) := rfl
theorem g_98 : jG[98]? = some (0, 6, []) := rfl
theorem g_99 : jG[99]? = some (0, 6, []) := rfl
theorem g_100 : jG[100]? = some (0, 6, []) := rfl
theorem g_101 : jG[101]? = some (0, 8, []) := rfl
theorem g_102 : jG[102]? = some (0, 8, []) := rfl
theorem g_103 : jG[103]? = some (0, 60, []) := rfl
theorem g_104 : jG[104]? = some (0, 60, []) := rfl
theorem g_105 : jG[105]? = some (0, 60, []) := rfl
theorem g_106 : jG[106]? = some (0, 60, []) := rfl
theorem g_107 : jG[107]? = some (0, 100, []) := rfl
theorem g_108 : jG[108]? = some (0, 6, []) := rfl
theorem g_109 : jG[109]? = some (0, 15, []) := rfl
theorem g_110 : jG[110]? = some (0, 3, []) := rfl
theorem g_111 : jG[111]? = some (0, 78, []) := rfl
theorem g_112 : jG[112]? = some (0, 3, []) := rfl
theorem g_113 : jG[113]? = some (0, 234, []) := rfl
theorem g_114 : jG[114]? = some (0, 123032, []) := rfl
theorem g_115 : jG[115]? = some (0, 3, []) := rfl
theorem g_116 : jG[116]? = some (0, 6, []) := rfl
theorem g_117 : jG[117]? = some (1, 100, []) := rfl
theorem g_118 : jG[118]? = some (1, 100, []) := rfl
theorem g_119 : jG[119]? = some (0, 120, []) := rfl
theorem g_120 : jG[120]? = some (2, 2, []) := rfl
def jHi (h : Nat) : Prop := jG[h]? = some (6, 8, [some (h + 1), some (h + 2), some (h + 3), some (h + 4), none, none, none, none]) ∧ jG[h + 1]? = some (0, 6, []) ∧ jG[h + 2]? = some (0, 6, []) ∧ jG[h + 3]? = some (0, 6, []) ∧ jG[h + 4]? = some (0, 6, [])
def jSi (h : Nat) : Prop := jG[h]? = some (11, 3, [some (h + 1), some (h + 2), none]) ∧ jG[h + 1]? = some (0, 8, []) ∧ jG[h + 2]? = some (0, 8, [])
def jIm (h : Nat) : Prop := jG[h]? = some (7, 3, [some (h + 1), some (h + 6), none]) ∧ jHi (h + 1) ∧ jSi (h + 6)
theorem hi_1 : jHi 1 := ⟨rfl, rfl, rfl, rfl, rfl⟩
theorem hi_12 : jHi 12 := ⟨rfl, rfl, rfl, rfl, rfl⟩
theorem hi_72 : jHi 72 := ⟨rfl, rfl, rfl, rfl, rfl⟩
theorem hi_79 : jHi 79 := ⟨rfl, rfl, rfl, rfl, rfl⟩
theorem hi_88 : jHi 88 := ⟨rfl, rfl, rfl, rfl, rfl⟩
theorem si_68 : jSi 68 := ⟨rfl, rfl, rfl⟩
theorem si_84 : jSi 84 := ⟨rfl, rfl, rfl⟩
theorem si_93 : jSi 93 := ⟨rfl, rfl, rfl⟩
theorem im_78 : jIm 78 := ⟨rfl, hi_79, si_84⟩
theorem im_87 : jIm 87 := ⟨rfl, hi_88, si_93⟩
theorem gr_21 {i : Int} (h0 : 0 ≤ i) (h1 : i < 21) : ([some 22, some 23, some 24, some 25, some 26, some 27, some 28, some 29, some 30, some 31, some 32, some 33, some 34, some 35, some 36, some 37, some 38, some 39, some 40, some 41, some 42] : List (Option Nat))[i.toNat]? = some (some (22 + i.toNat)) ∧ jG[22 + i.toNat]? = some (0, 13, []) := by
  have h2 : i.toNat < 21 := by omega
  revert h2
  generalize i.toNat = k
  intro h2
  have hall : ∀ k, k < 21 → ([some 22, some 23, some 24, some 25, some 26, some 27, some 28, some 29, some 30, some 31, some 32, some 33, some 34, some 35, some 36, some 37, some 38, some 39, some 40, some 41, some 42] : List (Option Nat))[k]? = some (some (22 + k)) ∧ jG[22 + k]? = some (0, 13, []) := by decide +kernel
  exact hall k h2
theorem gr_44 {i : Int} (h0 : 0 ≤ i) (h1 : i < 18) : ([some 45, some 46, some 47, some 48, some 49, some 50, some 51, some 52, some 53, some 54, some 55, some 56, some 57, some 58, some 59, some 60, some 61, some 62] : List (Option Nat))[i.toNat]? = some (some (45 + i.toNat)) ∧ jG[45 + i.toNat]? = some (0, 39, []) := by
  have h2 : i.toNat < 18 := by omega
  revert h2
  generalize i.toNat = k
  intro h2
  have hall : ∀ k, k < 18 → ([some 45, some 46, some 47, some 48, some 49, some 50, some 51, some 52, some 53, some 54, some 55, some 56, some 57, some 58, some 59, some 60, some 61, some 62] : List (Option Nat))[k]? = some (some (45 + k)) ∧ jG[45 + k]? = some (0, 39, []) := by decide +kernel
  exact hall k h2
theorem gr_77 {i : Int} (h0 : 0 ≤ i) (h1 : i < 2) : ([some 78, some 87] : List (Option Nat))[i.toNat]? = some (some (78 + 9 * i.toNat)) ∧ jIm (78 + 9 * i.toNat) := by
  have h2 : i.toNat = 0 ∨ i.toNat = 1 := by omega
  rcases h2 with h2 | h2 <;> rw [h2]
  · exact ⟨rfl, im_78⟩
  · exact ⟨rfl, im_87⟩
theorem jc_m6 : jIn (-6) := ⟨by decide, by decide⟩
theorem jc_m5 : jIn (-5) := ⟨by decide, by decide⟩
theorem jc_m4 : jIn (-4) := ⟨by decide, by decide⟩
theorem jc_m3 : jIn (-3) := ⟨by decide, by decide⟩
theorem jc_m2 : jIn (-2) := ⟨by decide, by decide⟩
theorem jc_m1 : jIn (-1) := ⟨by decide, by decide⟩
theorem jc_0 : jIn 0 := ⟨by decide, by decide⟩
theorem jc_1 : jIn 1 := ⟨by decide, by decide⟩
theorem jc_2 : jIn 2 := ⟨by decide, by decide⟩
theorem jc_3 : jIn 3 := ⟨by decide, by decide⟩
theorem jc_4 : jIn 4 := ⟨by decide, by decide⟩
theorem jc_5 : jIn 5 := ⟨by decide, by decide⟩
theorem jc_6 : jIn 6 := ⟨by decide, by decide⟩
theorem jc_7 : jIn 7 := ⟨by decide, by decide⟩
theorem jc_8 : jIn 8 := ⟨by decide, by decide⟩
theorem jc_9 : jIn 9 := ⟨by decide, by decide⟩
theorem jc_10 : jIn 10 := ⟨by decide, by decide⟩
theorem jc_12 : jIn 12 := ⟨by decide, by decide⟩
theorem jc_13 : jIn 13 := ⟨by decide, by decide⟩
theorem jc_14 : jIn 14 := ⟨by decide, by decide⟩
theorem jc_16 : jIn 16 := ⟨by decide, by decide⟩
theorem jc_26 : jIn 26 := ⟨by decide, by decide⟩
theorem jc_27 : jIn 27 := ⟨by decide, by decide⟩
theorem jc_33 : jIn 33 := ⟨by decide, by decide⟩
theorem jc_39 : jIn 39 := ⟨by decide, by decide⟩
theorem jc_40 : jIn 40 := ⟨by decide, by decide⟩
theorem jc_42 : jIn 42 := ⟨by decide, by decide⟩
theorem jc_46 : jIn 46 := ⟨by decide, by decide⟩
theorem jc_60 : jIn 60 := ⟨by decide, by decide⟩
theorem jc_62 : jIn 62 := ⟨by decide, by decide⟩
theorem jc_63 : jIn 63 := ⟨by decide, by decide⟩
theorem jc_65 : jIn 65 := ⟨by decide, by decide⟩
theorem jc_71 : jIn 71 := ⟨by decide, by decide⟩
theorem jc_74 : jIn 74 := ⟨by decide, by decide⟩
theorem jc_75 : jIn 75 := ⟨by decide, by decide⟩
theorem jc_78 : jIn 78 := ⟨by decide, by decide⟩
theorem jc_98 : jIn 98 := ⟨by decide, by decide⟩
theorem jc_99 : jIn 99 := ⟨by decide, by decide⟩
theorem jc_100 : jIn 100 := ⟨by decide, by decide⟩
theorem jc_104 : jIn 104 := ⟨by decide, by decide⟩
theorem jc_120 : jIn 120 := ⟨by decide, by decide⟩
theorem jc_126 : jIn 126 := ⟨by decide, by decide⟩
theorem jc_156 : jIn 156 := ⟨by decide, by decide⟩
theorem jc_200 : jIn 200 := ⟨by decide, by decide⟩
theorem jc_728 : jIn 728 := ⟨by decide, by decide⟩
theorem jc_1000 : jIn 1000 := ⟨by decide, by decide⟩
theorem jc_2556 : jIn 2556 := ⟨by decide, by decide⟩
theorem jc_9999 : jIn 9999 := ⟨by decide, by decide⟩
theorem jc_17576 : jIn 17576 := ⟨by decide, by decide⟩
theorem jb_m6 : (Int8.ofInt (-6)).toInt32 = Int32.ofInt (-6) := by decide +kernel
theorem jb_m5 : (Int8.ofInt (-5)).toInt32 = Int32.ofInt (-5) := by decide +kernel
theorem jb_m4 : (Int8.ofInt (-4)).toInt32 = Int32.ofInt (-4) := by decide +kernel
theorem jb_m3 : (Int8.ofInt (-3)).toInt32 = Int32.ofInt (-3) := by decide +kernel
theorem jb_m2 : (Int8.ofInt (-2)).toInt32 = Int32.ofInt (-2) := by decide +kernel
theorem jb_6 : (Int8.ofInt 6).toInt32 = Int32.ofInt 6 := by decide +kernel
theorem jb_7 : (Int8.ofInt 7).toInt32 = Int32.ofInt 7 := by decide +kernel
theorem jb_8 : (Int8.ofInt 8).toInt32 = Int32.ofInt 8 := by decide +kernel
theorem jb_9 : (Int8.ofInt 9).toInt32 = Int32.ofInt 9 := by decide +kernel
theorem jb_10 : (Int8.ofInt 10).toInt32 = Int32.ofInt 10 := by decide +kernel
theorem jb_12 : (Int8.ofInt 12).toInt32 = Int32.ofInt 12 := by decide +kernel
theorem jb_13 : (Int8.ofInt 13).toInt32 = Int32.ofInt 13 := by decide +kernel
theorem jb_14 : (Int8.ofInt 14).toInt32 = Int32.ofInt 14 := by decide +kernel
theorem jb_16 : (Int8.ofInt 16).toInt32 = Int32.ofInt 16 := by decide +kernel
theorem jb_26 : (Int8.ofInt 26).toInt32 = Int32.ofInt 26 := by decide +kernel
theorem jb_27 : (Int8.ofInt 27).toInt32 = Int32.ofInt 27 := by decide +kernel
theorem jb_33 : (Int8.ofInt 33).toInt32 = Int32.ofInt 33 := by decide +kernel
theorem jb_39 : (Int8.ofInt 39).toInt32 = Int32.ofInt 39 := by decide +kernel
theorem jb_40 : (Int8.ofInt 40).toInt32 = Int32.ofInt 40 := by decide +kernel
theorem jb_42 : (Int8.ofInt 42).toInt32 = Int32.ofInt 42 := by decide +kernel
theorem jb_46 : (Int8.ofInt 46).toInt32 = Int32.ofInt 46 := by decide +kernel
theorem jb_60 : (Int8.ofInt 60).toInt32 = Int32.ofInt 60 := by decide +kernel
theorem jb_62 : (Int8.ofInt 62).toInt32 = Int32.ofInt 62 := by decide +kernel
theorem jb_63 : (Int8.ofInt 63).toInt32 = Int32.ofInt 63 := by decide +kernel
theorem jb_65 : (Int8.ofInt 65).toInt32 = Int32.ofInt 65 := by decide +kernel
theorem jb_71 : (Int8.ofInt 71).toInt32 = Int32.ofInt 71 := by decide +kernel
theorem jb_74 : (Int8.ofInt 74).toInt32 = Int32.ofInt 74 := by decide +kernel
theorem jb_75 : (Int8.ofInt 75).toInt32 = Int32.ofInt 75 := by decide +kernel
theorem jb_78 : (Int8.ofInt 78).toInt32 = Int32.ofInt 78 := by decide +kernel
theorem jb_98 : (Int8.ofInt 98).toInt32 = Int32.ofInt 98 := by decide +kernel
theorem jb_99 : (Int8.ofInt 99).toInt32 = Int32.ofInt 99 := by decide +kernel
theorem jb_100 : (Int8.ofInt 100).toInt32 = Int32.ofInt 100 := by decide +kernel
theorem jb_104 : (Int8.ofInt 104).toInt32 = Int32.ofInt 104 := by decide +kernel
theorem jb_120 : (Int8.ofInt 120).toInt32 = Int32.ofInt 120 := by decide +kernel
theorem jb_126 : (Int8.ofInt 126).toInt32 = Int32.ofInt 126 := by decide +kernel
theorem jsp_156 : (Int16.ofInt 156).toInt32 = Int32.ofInt 156 := by decide +kernel
theorem jsp_200 : (Int16.ofInt 200).toInt32 = Int32.ofInt 200 := by decide +kernel
theorem jsp_728 : (Int16.ofInt 728).toInt32 = Int32.ofInt 728 := by decide +kernel
theorem jsp_1000 : (Int16.ofInt 1000).toInt32 = Int32.ofInt 1000 := by decide +kernel
theorem jsp_2556 : (Int16.ofInt 2556).toInt32 = Int32.ofInt 2556 := by decide +kernel
theorem jsp_9999 : (Int16.ofInt 9999).toInt32 = Int32.ofInt 9999 := by decide +kernel
theorem jsp_17576 : (Int16.ofInt 17576).toInt32 = Int32.ofInt 17576 := by decide +kernel
theorem jlc_0 : jInL 0 := ⟨by decide, by decide⟩
theorem jlv_0 : Int64.ofNat ((0 : Fin 2) : Nat) = Int64.ofInt 0 := by decide +kernel
theorem jlc_1 : jInL 1 := ⟨by decide, by decide⟩
theorem jlv_1 : Int64.ofNat ((1 : Fin 2) : Nat) = Int64.ofInt 1 := by decide +kernel
end
section
theorem jsel {ws : List Cond} (ps : List Nat) (h : ws.map some = ps.map (fun i => tables_1[i]?)) : ∀ w ∈ ws, w ∈ tables_1 := fun w hw => by
  have h1 : some w ∈ ws.map some := List.mem_map.mpr ⟨w, hw, rfl⟩
  rw [h] at h1
  obtain ⟨i, -, hi⟩ := List.mem_map.mp h1
  exact List.mem_of_getElem? hi
theorem jtb {w : Cond} (i : Nat) (h : tables_1[i]? = some w) : w ∈ lw_tbl := List.mem_append_right _ (List.mem_of_getElem? h)
theorem jtp {q : MethodName × Nat} (i : Nat) (h : lw_privs[i]? = some q) : Cond.selects q.1.cls q.1 q.1 ∈ lw_tbl := List.mem_append_left _ (List.mem_map.mpr ⟨q, List.mem_of_getElem? h, rfl⟩)
theorem lw_J6_265 : Jvm.Cond.constant RJ6 265 (1431655765 : Int32) ∈ jW := jW_mem (jtb 299 (by decide +kernel)) (by decide +kernel)
theorem lcl_J6_265 : jIn 1431655765 := ⟨by decide, by decide⟩
theorem lw_J6_266 : Jvm.Cond.constant RJ6 266 (858993459 : Int32) ∈ jW := jW_mem (jtb 300 (by decide +kernel)) (by decide +kernel)
theorem lcl_J6_266 : jIn 858993459 := ⟨by decide, by decide⟩
theorem lw_J6_267 : Jvm.Cond.constant RJ6 267 (252645135 : Int32) ∈ jW := jW_mem (jtb 301 (by decide +kernel)) (by decide +kernel)
theorem lcl_J6_267 : jIn 252645135 := ⟨by decide, by decide⟩
theorem lw_X10_92 : Jvm.Cond.constantLong RX10 92 (5 : Int64) ∈ jW := jW_mem (jtb 788 (by decide +kernel)) (by decide +kernel)
theorem lcl_X10_92 : jInL 5 := ⟨by decide, by decide⟩
theorem lw_X10_101 : Jvm.Cond.constantLong RX10 101 (99 : Int64) ∈ jW := jW_mem (jtb 792 (by decide +kernel)) (by decide +kernel)
theorem lcl_X10_101 : jInL 99 := ⟨by decide, by decide⟩
theorem lw_X10_103 : Jvm.Cond.constantLong RX10 103 (9 : Int64) ∈ jW := jW_mem (jtb 793 (by decide +kernel)) (by decide +kernel)
theorem lcl_X10_103 : jInL 9 := ⟨by decide, by decide⟩
theorem lw_X10_113 : Jvm.Cond.constantLong RX10 113 (2 : Int64) ∈ jW := jW_mem (jtb 809 (by decide +kernel)) (by decide +kernel)
theorem lcl_X10_113 : jInL 2 := ⟨by decide, by decide⟩
theorem lw_X10_115 : Jvm.Cond.constantLong RX10 115 (40 : Int64) ∈ jW := jW_mem (jtb 810 (by decide +kernel)) (by decide +kernel)
theorem lcl_X10_115 : jInL 40 := ⟨by decide, by decide⟩
theorem lw_X10_120 : Jvm.Cond.constantLong RX10 120 (33 : Int64) ∈ jW := jW_mem (jtb 815 (by decide +kernel)) (by decide +kernel)
theorem lcl_X10_120 : jInL 33 := ⟨by decide, by decide⟩
theorem lw_X10_122 : Jvm.Cond.constantLong RX10 122 (126 : Int64) ∈ jW := jW_mem (jtb 816 (by decide +kernel)) (by decide +kernel)
theorem lcl_X10_122 : jInL 126 := ⟨by decide, by decide⟩
theorem lw_X10_127 : Jvm.Cond.constantLong RX10 127 (65 : Int64) ∈ jW := jW_mem (jtb 832 (by decide +kernel)) (by decide +kernel)
theorem lcl_X10_127 : jInL 65 := ⟨by decide, by decide⟩
theorem lw_X10_129 : Jvm.Cond.constantLong RX10 129 (70 : Int64) ∈ jW := jW_mem (jtb 833 (by decide +kernel)) (by decide +kernel)
theorem lcl_X10_129 : jInL 70 := ⟨by decide, by decide⟩
theorem lw_X10_235 : Jvm.Cond.constantLong RX10 235 (63 : Int64) ∈ jW := jW_mem (jtb 927 (by decide +kernel)) (by decide +kernel)
theorem lcl_X10_235 : jInL 63 := ⟨by decide, by decide⟩
theorem lw_X10_237 : Jvm.Cond.constantLong RX10 237 (6 : Int64) ∈ jW := jW_mem (jtb 928 (by decide +kernel)) (by decide +kernel)
theorem lcl_X10_237 : jInL 6 := ⟨by decide, by decide⟩
theorem lw_X10_252 : Jvm.Cond.constantLong RX10 252 (12 : Int64) ∈ jW := jW_mem (jtb 979 (by decide +kernel)) (by decide +kernel)
theorem lcl_X10_252 : jInL 12 := ⟨by decide, by decide⟩
theorem lw_X10_257 : Jvm.Cond.constantLong RX10 257 (60 : Int64) ∈ jW := jW_mem (jtb 992 (by decide +kernel)) (by decide +kernel)
theorem lcl_X10_257 : jInL 60 := ⟨by decide, by decide⟩
theorem lw_X10_274 : Jvm.Cond.constantLong RX10 274 (10 : Int64) ∈ jW := jW_mem (jtb 1034 (by decide +kernel)) (by decide +kernel)
theorem lcl_X10_274 : jInL 10 := ⟨by decide, by decide⟩
theorem lw_X10_276 : Jvm.Cond.constantLong RX10 276 ((-1000000000000000001) : Int64) ∈ jW := jW_mem (jtb 1033 (by decide +kernel)) (by decide +kernel)
theorem lcl_X10_276 : jInL (-1000000000000000001) := ⟨by decide, by decide⟩
theorem lw_X10_278 : Jvm.Cond.constantLong RX10 278 ((-1) : Int64) ∈ jW := jW_mem (jtb 1035 (by decide +kernel)) (by decide +kernel)
theorem lcl_X10_278 : jInL (-1) := ⟨by decide, by decide⟩
theorem lw_X10_280 : Jvm.Cond.constantLong RX10 280 ((-1000000000000000002) : Int64) ∈ jW := jW_mem (jtb 1036 (by decide +kernel)) (by decide +kernel)
theorem lcl_X10_280 : jInL (-1000000000000000002) := ⟨by decide, by decide⟩
theorem lw_X10_289 : Jvm.Cond.constantLong RX10 289 (9999 : Int64) ∈ jW := jW_mem (jtb 1048 (by decide +kernel)) (by decide +kernel)
theorem lcl_X10_289 : jInL 9999 := ⟨by decide, by decide⟩
theorem lw_X10_291 : Jvm.Cond.constantLong RX10 291 (75 : Int64) ∈ jW := jW_mem (jtb 1049 (by decide +kernel)) (by decide +kernel)
theorem lcl_X10_291 : jInL 75 := ⟨by decide, by decide⟩
theorem lw_X10_293 : Jvm.Cond.constantLong RX10 293 (74 : Int64) ∈ jW := jW_mem (jtb 1050 (by decide +kernel)) (by decide +kernel)
theorem lcl_X10_293 : jInL 74 := ⟨by decide, by decide⟩
theorem lw_X10_295 : Jvm.Cond.constantLong RX10 295 (65537 : Int64) ∈ jW := jW_mem (jtb 1051 (by decide +kernel)) (by decide +kernel)
theorem lcl_X10_295 : jInL 65537 := ⟨by decide, by decide⟩
theorem lw_X10_310 : Jvm.Cond.constantLong RX10 310 (69 : Int64) ∈ jW := jW_mem (jtb 1072 (by decide +kernel)) (by decide +kernel)
theorem lcl_X10_310 : jInL 69 := ⟨by decide, by decide⟩
theorem lw_X8_26 : Jvm.Cond.constant RX8 26 (65537 : Int32) ∈ jW := jW_mem (jtb 620 (by decide +kernel)) (by decide +kernel)
theorem lcl_X8_26 : jIn 65537 := ⟨by decide, by decide⟩
theorem lw_X9_196 : Jvm.Cond.constantLong RX9 196 ((-1000000000000000001) : Int64) ∈ jW := jW_mem (jtb 589 (by decide +kernel)) (by decide +kernel)
theorem lcl_X9_196 : jInL (-1000000000000000001) := ⟨by decide, by decide⟩
theorem lw_X9_198 : Jvm.Cond.constantLong RX9 198 ((-1000000000000000002) : Int64) ∈ jW := jW_mem (jtb 590 (by decide +kernel)) (by decide +kernel)
theorem lcl_X9_198 : jInL (-1000000000000000002) := ⟨by decide, by decide⟩
theorem lw_X9_205 : Jvm.Cond.constantLong RX9 205 (10 : Int64) ∈ jW := jW_mem (jtb 603 (by decide +kernel)) (by decide +kernel)
theorem lcl_X9_205 : jInL 10 := ⟨by decide, by decide⟩
theorem jfw_X0 : ∀ w ∈ u_ws RX0 TX0 8, w ∈ lw_tbl := fun w hw => List.mem_append_right _ (jsel [123, 125, 127, 129, 131, 133, 135, 137] (by decide +kernel) w hw)
theorem jcl_X0 : jCl 0 RX0 TX0 8 := ⟨rfl, fun w hw => jW_mem ((jfw_X0) w hw) ((show ∀ w ∈ u_ws RX0 TX0 8, goodWord w = true by decide +kernel) w hw), tyX0_ok, nmX0, by decide +kernel⟩
theorem jfw_X1 : ∀ w ∈ u_ws RX1 TX1 8, w ∈ lw_tbl := fun w hw => List.mem_append_right _ (jsel [51, 53, 55, 57, 59, 61, 63, 65] (by decide +kernel) w hw)
theorem jcl_X1 : jCl 1 RX1 TX1 8 := ⟨rfl, fun w hw => jW_mem ((jfw_X1) w hw) ((show ∀ w ∈ u_ws RX1 TX1 8, goodWord w = true by decide +kernel) w hw), tyX1_ok, nmX1, by decide +kernel⟩
theorem jfw_X2 : ∀ w ∈ u_ws RX2 TX2 3, w ∈ lw_tbl := fun w hw => List.mem_append_right _ (jsel [249, 251, 253] (by decide +kernel) w hw)
theorem jcl_X2 : jCl 2 RX2 TX2 3 := ⟨rfl, fun w hw => jW_mem ((jfw_X2) w hw) ((show ∀ w ∈ u_ws RX2 TX2 3, goodWord w = true by decide +kernel) w hw), tyX2_ok, nmX2, by decide +kernel⟩
theorem jfw_X3 : ∀ w ∈ u_ws RX3 TX3 11, w ∈ lw_tbl := fun w hw => List.mem_append_right _ (jsel [159, 161, 163, 165, 167, 169, 171, 173, 175, 177, 179] (by decide +kernel) w hw)
theorem jcl_X3 : jCl 3 RX3 TX3 11 := ⟨rfl, fun w hw => jW_mem ((jfw_X3) w hw) ((show ∀ w ∈ u_ws RX3 TX3 11, goodWord w = true by decide +kernel) w hw), tyX3_ok, nmX3, by decide +kernel⟩
theorem jfw_X4 : ∀ w ∈ u_ws RX4 TX4 6, w ∈ lw_tbl := fun w hw => List.mem_append_right _ (jsel [87, 89, 91, 93, 95, 97] (by decide +kernel) w hw)
theorem jcl_X4 : jCl 4 RX4 TX4 6 := ⟨rfl, fun w hw => jW_mem ((jfw_X4) w hw) ((show ∀ w ∈ u_ws RX4 TX4 6, goodWord w = true by decide +kernel) w hw), tyX4_ok, nmX4, by decide +kernel⟩
theorem jfw_X5 : ∀ w ∈ u_ws RX5 TX5 3, w ∈ lw_tbl := fun w hw => List.mem_append_right _ (jsel [193, 195, 197] (by decide +kernel) w hw)
theorem jcl_X5 : jCl 5 RX5 TX5 3 := ⟨rfl, fun w hw => jW_mem ((jfw_X5) w hw) ((show ∀ w ∈ u_ws RX5 TX5 3, goodWord w = true by decide +kernel) w hw), tyX5_ok, nmX5, by decide +kernel⟩
theorem jfw_X6 : ∀ w ∈ u_ws RX6 TX6 3, w ∈ lw_tbl := fun w hw => List.mem_append_right _ (jsel [210, 212, 214] (by decide +kernel) w hw)
theorem jcl_X6 : jCl 6 RX6 TX6 3 := ⟨rfl, fun w hw => jW_mem ((jfw_X6) w hw) ((show ∀ w ∈ u_ws RX6 TX6 3, goodWord w = true by decide +kernel) w hw), tyX6_ok, nmX6, by decide +kernel⟩
theorem jfw_X8 : ∀ w ∈ u_ws RX8 TX8 2, w ∈ lw_tbl := fun w hw => List.mem_append_right _ (jsel [229, 231] (by decide +kernel) w hw)
theorem jcl_X8 : jCl 7 RX8 TX8 2 := ⟨rfl, fun w hw => jW_mem ((jfw_X8) w hw) ((show ∀ w ∈ u_ws RX8 TX8 2, goodWord w = true by decide +kernel) w hw), tyX8_ok, nmX8, by decide +kernel⟩
theorem jfw_X9 : ∀ w ∈ u_ws RX9 TX9 8, w ∈ lw_tbl := fun w hw => List.mem_append_right _ (jsel [264, 266, 268, 270, 272, 274, 276, 278] (by decide +kernel) w hw)
theorem jcl_X9 : jCl 8 RX9 TX9 8 := ⟨rfl, fun w hw => jW_mem ((jfw_X9) w hw) ((show ∀ w ∈ u_ws RX9 TX9 8, goodWord w = true by decide +kernel) w hw), tyX9_ok, nmX9, by decide +kernel⟩
theorem jfw_X10 : ∀ w ∈ u_ws RX10 TX10 38, w ∈ lw_tbl := fun w hw => List.mem_append_right _ (jsel [705, 707, 709, 711, 713, 715, 717, 719, 721, 723, 725, 727, 729, 731, 733, 735, 737, 739, 741, 743, 745, 747, 749, 751, 753, 755, 757, 759, 761, 763, 765, 767, 769, 771, 773, 775, 777, 779] (by decide +kernel) w hw)
theorem jcl_X10 : jCl 9 RX10 TX10 38 := ⟨rfl, fun w hw => jW_mem ((jfw_X10) w hw) ((show ∀ w ∈ u_ws RX10 TX10 38, goodWord w = true by decide +kernel) w hw), tyX10_ok, nmX10, by decide +kernel⟩
abbrev mX0_init : jMt := (yX0_init, cX0_init, 1, none, false)
theorem mc_X0_init : Cond.code yX0_init cX0_init 1 none ∈ jW := jW_mem (jtb 104 (by decide +kernel)) (by decide +kernel)
abbrev mX0_live : jMt := (yX0_live, cX0_live, 6, none, false)
theorem mc_X0_live : Cond.code yX0_live cX0_live 6 none ∈ jW := jW_mem (jtb 357 (by decide +kernel)) (by decide +kernel)
abbrev mX0_tellMorning : jMt := (yX0_tellMorning, cX0_tellMorning, 1, none, false)
theorem mc_X0_tellMorning : Cond.code yX0_tellMorning cX0_tellMorning 1 none ∈ jW := jW_mem (jtb 400 (by decide +kernel)) (by decide +kernel)
abbrev mX0_leastPass : jMt := (yX0_leastPass, cX0_leastPass, 3, (some .int), false)
theorem mc_X0_leastPass : Cond.code yX0_leastPass cX0_leastPass 3 (some .int) ∈ jW := jW_mem (jtb 404 (by decide +kernel)) (by decide +kernel)
abbrev mX0_hasPassed : jMt := (yX0_hasPassed, cX0_hasPassed, 5, (some .boolean), false)
theorem mc_X0_hasPassed : Cond.code yX0_hasPassed cX0_hasPassed 5 (some .boolean) ∈ jW := jW_mem (jtb 409 (by decide +kernel)) (by decide +kernel)
abbrev mX1_init : jMt := (yX1_init, cX1_init, 1, none, false)
theorem mc_X1_init : Cond.code yX1_init cX1_init 1 none ∈ jW := jW_mem (jtb 27 (by decide +kernel)) (by decide +kernel)
abbrev mX1_has : jMt := (yX1_has, cX1_has, 2, (some .boolean), false)
theorem mc_X1_has : Cond.code yX1_has cX1_has 2 (some .boolean) ∈ jW := jW_mem (jtb 309 (by decide +kernel)) (by decide +kernel)
abbrev mX1_people : jMt := (yX1_people, cX1_people, 1, (some .int), false)
theorem mc_X1_people : Cond.code yX1_people cX1_people 1 (some .int) ∈ jW := jW_mem (jtb 295 (by decide +kernel)) (by decide +kernel)
abbrev mX1_settle : jMt := (yX1_settle, cX1_settle, 5, none, false)
theorem mc_X1_settle : Cond.code yX1_settle cX1_settle 5 none ∈ jW := jW_mem (jtb 291 (by decide +kernel)) (by decide +kernel)
abbrev mX1_drop : jMt := (yX1_drop, cX1_drop, 2, none, false)
theorem mc_X1_drop : Cond.code yX1_drop cX1_drop 2 none ∈ jW := jW_mem (jtb 313 (by decide +kernel)) (by decide +kernel)
abbrev mX1_takeOver : jMt := (yX1_takeOver, cX1_takeOver, 2, none, false)
theorem mc_X1_takeOver : Cond.code yX1_takeOver cX1_takeOver 2 none ∈ jW := jW_mem (jtb 361 (by decide +kernel)) (by decide +kernel)
abbrev mX1_whyNot : jMt := (yX1_whyNot, cX1_whyNot, 5, (some .int), false)
theorem mc_X1_whyNot : Cond.code yX1_whyNot cX1_whyNot 5 (some .int) ∈ jW := jW_mem (jtb 368 (by decide +kernel)) (by decide +kernel)
abbrev mX1_whyNotGive : jMt := (yX1_whyNotGive, cX1_whyNotGive, 3, (some .int), false)
theorem mc_X1_whyNotGive : Cond.code yX1_whyNotGive cX1_whyNotGive 3 (some .int) ∈ jW := jW_mem (jtb 372 (by decide +kernel)) (by decide +kernel)
abbrev mX1_halvesOf : jMt := (yX1_halvesOf, cX1_halvesOf, 1, (some .int), false)
theorem mc_X1_halvesOf : Cond.code yX1_halvesOf cX1_halvesOf 1 (some .int) ∈ jW := jW_mem (jtb 375 (by decide +kernel)) (by decide +kernel)
abbrev mX1_act : jMt := (yX1_act, cX1_act, 4, none, false)
theorem mc_X1_act : Cond.code yX1_act cX1_act 4 none ∈ jW := jW_mem (jtb 380 (by decide +kernel)) (by decide +kernel)
abbrev mX1_wake : jMt := (yX1_wake, cX1_wake, 2, none, false)
theorem mc_X1_wake : Cond.code yX1_wake cX1_wake 2 none ∈ jW := jW_mem (jtb 385 (by decide +kernel)) (by decide +kernel)
abbrev mX1_aged : jMt := (yX1_aged, cX1_aged, 4, (some .int), false)
theorem mc_X1_aged : Cond.code yX1_aged cX1_aged 4 (some .int) ∈ jW := jW_mem (jtb 389 (by decide +kernel)) (by decide +kernel)
abbrev mX1_oldestOne : jMt := (yX1_oldestOne, cX1_oldestOne, 4, (some .int), false)
theorem mc_X1_oldestOne : Cond.code yX1_oldestOne cX1_oldestOne 4 (some .int) ∈ jW := jW_mem (jtb 416 (by decide +kernel)) (by decide +kernel)
abbrev mX1_looksTogether : jMt := (yX1_looksTogether, cX1_looksTogether, 3, (some .int), false)
theorem mc_X1_looksTogether : Cond.code yX1_looksTogether cX1_looksTogether 3 (some .int) ∈ jW := jW_mem (jtb 628 (by decide +kernel)) (by decide +kernel)
abbrev mX2_init : jMt := (yX2_init, cX2_init, 1, none, false)
theorem mc_X2_init : Cond.code yX2_init cX2_init 1 none ∈ jW := jW_mem (jtb 239 (by decide +kernel)) (by decide +kernel)
abbrev mX2_keep : jMt := (yX2_keep, cX2_keep, 3, none, false)
theorem mc_X2_keep : Cond.code yX2_keep cX2_keep 3 none ∈ jW := jW_mem (jtb 637 (by decide +kernel)) (by decide +kernel)
abbrev mX2_giveBack : jMt := (yX2_giveBack, cX2_giveBack, 3, none, false)
theorem mc_X2_giveBack : Cond.code yX2_giveBack cX2_giveBack 3 none ∈ jW := jW_mem (jtb 651 (by decide +kernel)) (by decide +kernel)
abbrev mX3_init : jMt := (yX3_init, cX3_init, 1, none, false)
theorem mc_X3_init : Cond.code yX3_init cX3_init 1 none ∈ jW := jW_mem (jtb 144 (by decide +kernel)) (by decide +kernel)
abbrev mX3_solve : jMt := (yX3_solve, cX3_solve, 7, (some .int), false)
theorem mc_X3_solve : Cond.code yX3_solve cX3_solve 7 (some .int) ∈ jW := jW_mem (jtb 454 (by decide +kernel)) (by decide +kernel)
abbrev mX3_seat : jMt := (yX3_seat, cX3_seat, 5, none, false)
theorem mc_X3_seat : Cond.code yX3_seat cX3_seat 5 none ∈ jW := jW_mem (jtb 460 (by decide +kernel)) (by decide +kernel)
abbrev mX3_listAges : jMt := (yX3_listAges, cX3_listAges, 7, none, false)
theorem mc_X3_listAges : Cond.code yX3_listAges cX3_listAges 7 none ∈ jW := jW_mem (jtb 465 (by decide +kernel)) (by decide +kernel)
abbrev mX3_listNext : jMt := (yX3_listNext, cX3_listNext, 10, none, false)
theorem mc_X3_listNext : Cond.code yX3_listNext cX3_listNext 10 none ∈ jW := jW_mem (jtb 469 (by decide +kernel)) (by decide +kernel)
abbrev mX3_lastsRest : jMt := (yX3_lastsRest, cX3_lastsRest, 5, (some .boolean), false)
theorem mc_X3_lastsRest : Cond.code yX3_lastsRest cX3_lastsRest 5 (some .boolean) ∈ jW := jW_mem (jtb 473 (by decide +kernel)) (by decide +kernel)
abbrev mX3_findAge : jMt := (yX3_findAge, cX3_findAge, 5, (some .int), false)
theorem mc_X3_findAge : Cond.code yX3_findAge cX3_findAge 5 (some .int) ∈ jW := jW_mem (jtb 478 (by decide +kernel)) (by decide +kernel)
abbrev mX3_countOf : jMt := (yX3_countOf, cX3_countOf, 4, (some .int), false)
theorem mc_X3_countOf : Cond.code yX3_countOf cX3_countOf 4 (some .int) ∈ jW := jW_mem (jtb 486 (by decide +kernel)) (by decide +kernel)
abbrev mX3_countDay : jMt := (yX3_countDay, cX3_countDay, 6, none, false)
theorem mc_X3_countDay : Cond.code yX3_countDay cX3_countDay 6 none ∈ jW := jW_mem (jtb 482 (by decide +kernel)) (by decide +kernel)
abbrev mX3_bestMeals : jMt := (yX3_bestMeals, cX3_bestMeals, 13, (some .int), false)
theorem mc_X3_bestMeals : Cond.code yX3_bestMeals cX3_bestMeals 13 (some .int) ∈ jW := jW_mem (jtb 490 (by decide +kernel)) (by decide +kernel)
abbrev mX3_next : jMt := (yX3_next, cX3_next, 7, (some .int), false)
theorem mc_X3_next : Cond.code yX3_next cX3_next 7 (some .int) ∈ jW := jW_mem (jtb 494 (by decide +kernel)) (by decide +kernel)
abbrev mX3_fewestFrom : jMt := (yX3_fewestFrom, cX3_fewestFrom, 6, (some .int), false)
theorem mc_X3_fewestFrom : Cond.code yX3_fewestFrom cX3_fewestFrom 6 (some .int) ∈ jW := jW_mem (jtb 498 (by decide +kernel)) (by decide +kernel)
abbrev mX3_eats : jMt := (yX3_eats, cX3_eats, 4, (some .int), false)
theorem mc_X3_eats : Cond.code yX3_eats cX3_eats 4 (some .int) ∈ jW := jW_mem (jtb 506 (by decide +kernel)) (by decide +kernel)
abbrev mX3_walk : jMt := (yX3_walk, cX3_walk, 8, none, false)
theorem mc_X3_walk : Cond.code yX3_walk cX3_walk 8 none ∈ jW := jW_mem (jtb 510 (by decide +kernel)) (by decide +kernel)
abbrev mX4_init : jMt := (yX4_init, cX4_init, 1, none, false)
theorem mc_X4_init : Cond.code yX4_init cX4_init 1 none ∈ jW := jW_mem (jtb 73 (by decide +kernel)) (by decide +kernel)
abbrev mX4_add : jMt := (yX4_add, cX4_add, 2, (some .boolean), false)
theorem mc_X4_add : Cond.code yX4_add cX4_add 2 (some .boolean) ∈ jW := jW_mem (jtb 326 (by decide +kernel)) (by decide +kernel)
abbrev mX4_read : jMt := (yX4_read, cX4_read, 5, (some .int), false)
theorem mc_X4_read : Cond.code yX4_read cX4_read 5 (some .int) ∈ jW := jW_mem (jtb 338 (by decide +kernel)) (by decide +kernel)
abbrev mX4_isLetter : jMt := (yX4_isLetter, cX4_isLetter, 1, (some .boolean), false)
theorem mc_X4_isLetter : Cond.code yX4_isLetter cX4_isLetter 1 (some .boolean) ∈ jW := jW_mem (jtb 341 (by decide +kernel)) (by decide +kernel)
abbrev mX4_addAct : jMt := (yX4_addAct, cX4_addAct, 4, none, false)
theorem mc_X4_addAct : Cond.code yX4_addAct cX4_addAct 4 none ∈ jW := jW_mem (jtb 345 (by decide +kernel)) (by decide +kernel)
abbrev mX5_init : jMt := (yX5_init, cX5_init, 1, none, false)
theorem mc_X5_init : Cond.code yX5_init cX5_init 1 none ∈ jW := jW_mem (jtb 186 (by decide +kernel)) (by decide +kernel)
abbrev mX5_weigh : jMt := (yX5_weigh, cX5_weigh, 3, none, false)
theorem mc_X5_weigh : Cond.code yX5_weigh cX5_weigh 3 none ∈ jW := jW_mem (jtb 518 (by decide +kernel)) (by decide +kernel)
abbrev mX5_share : jMt := (yX5_share, cX5_share, 6, none, false)
theorem mc_X5_share : Cond.code yX5_share cX5_share 6 none ∈ jW := jW_mem (jtb 522 (by decide +kernel)) (by decide +kernel)
abbrev mX5_addShare : jMt := (yX5_addShare, cX5_addShare, 3, none, false)
theorem mc_X5_addShare : Cond.code yX5_addShare cX5_addShare 3 none ∈ jW := jW_mem (jtb 526 (by decide +kernel)) (by decide +kernel)
abbrev mX5_envies : jMt := (yX5_envies, cX5_envies, 4, (some .boolean), false)
theorem mc_X5_envies : Cond.code yX5_envies cX5_envies 4 (some .boolean) ∈ jW := jW_mem (jtb 532 (by decide +kernel)) (by decide +kernel)
abbrev mX5_wronged : jMt := (yX5_wronged, cX5_wronged, 4, (some .boolean), false)
theorem mc_X5_wronged : Cond.code yX5_wronged cX5_wronged 4 (some .boolean) ∈ jW := jW_mem (jtb 536 (by decide +kernel)) (by decide +kernel)
abbrev mX6_init : jMt := (yX6_init, cX6_init, 1, none, false)
theorem mc_X6_init : Cond.code yX6_init cX6_init 1 none ∈ jW := jW_mem (jtb 204 (by decide +kernel)) (by decide +kernel)
abbrev mX6_add : jMt := (yX6_add, cX6_add, 3, (some .boolean), false)
theorem mc_X6_add : Cond.code yX6_add cX6_add 3 (some .boolean) ∈ jW := jW_mem (jtb 550 (by decide +kernel)) (by decide +kernel)
abbrev mX6_takeOver : jMt := (yX6_takeOver, cX6_takeOver, 2, none, false)
theorem mc_X6_takeOver : Cond.code yX6_takeOver cX6_takeOver 2 none ∈ jW := jW_mem (jtb 642 (by decide +kernel)) (by decide +kernel)
abbrev mX6_givers : jMt := (yX6_givers, cX6_givers, 4, (some .int), false)
theorem mc_X6_givers : Cond.code yX6_givers cX6_givers 4 (some .int) ∈ jW := jW_mem (jtb 562 (by decide +kernel)) (by decide +kernel)
abbrev mX6_fits : jMt := (yX6_fits, cX6_fits, 4, (some .boolean), false)
theorem mc_X6_fits : Cond.code yX6_fits cX6_fits 4 (some .boolean) ∈ jW := jW_mem (jtb 567 (by decide +kernel)) (by decide +kernel)
abbrev mX6_leftAtMost : jMt := (yX6_leftAtMost, cX6_leftAtMost, 5, (some .int), false)
theorem mc_X6_leftAtMost : Cond.code yX6_leftAtMost cX6_leftAtMost 5 (some .int) ∈ jW := jW_mem (jtb 578 (by decide +kernel)) (by decide +kernel)
abbrev mX6_looksBehind : jMt := (yX6_looksBehind, cX6_looksBehind, 3, (some .int), false)
theorem mc_X6_looksBehind : Cond.code yX6_looksBehind cX6_looksBehind 3 (some .int) ∈ jW := jW_mem (jtb 570 (by decide +kernel)) (by decide +kernel)
abbrev mX7_weigh : jMt := (yX7_weigh, cX7_weigh, 12, (some .long), false)
theorem mc_X7_weigh : Cond.code yX7_weigh cX7_weigh 12 (some .long) ∈ jW := jW_mem (jtb 593 (by decide +kernel)) (by decide +kernel)
abbrev mX7_looksBehind : jMt := (yX7_looksBehind, cX7_looksBehind, 6, (some .int), false)
theorem mc_X7_looksBehind : Cond.code yX7_looksBehind cX7_looksBehind 6 (some .int) ∈ jW := jW_mem (jtb 596 (by decide +kernel)) (by decide +kernel)
abbrev mX7_power : jMt := (yX7_power, cX7_power, 6, (some .long), false)
theorem mc_X7_power : Cond.code yX7_power cX7_power 6 (some .long) ∈ jW := jW_mem (jtb 602 (by decide +kernel)) (by decide +kernel)
abbrev mX7_commonDivisor : jMt := (yX7_commonDivisor, cX7_commonDivisor, 7, (some .long), false)
theorem mc_X7_commonDivisor : Cond.code yX7_commonDivisor cX7_commonDivisor 7 (some .long) ∈ jW := jW_mem (jtb 607 (by decide +kernel)) (by decide +kernel)
abbrev mX8_init : jMt := (yX8_init, cX8_init, 1, none, false)
theorem mc_X8_init : Cond.code yX8_init cX8_init 1 none ∈ jW := jW_mem (jtb 221 (by decide +kernel)) (by decide +kernel)
abbrev mX8_live : jMt := (yX8_live, cX8_live, 7, none, false)
theorem mc_X8_live : Cond.code yX8_live cX8_live 7 none ∈ jW := jW_mem (jtb 618 (by decide +kernel)) (by decide +kernel)
abbrev mX8_kindOf : jMt := (yX8_kindOf, cX8_kindOf, 1, (some .int), false)
theorem mc_X8_kindOf : Cond.code yX8_kindOf cX8_kindOf 1 (some .int) ∈ jW := jW_mem (jtb 623 (by decide +kernel)) (by decide +kernel)
abbrev mX9_init : jMt := (yX9_init, cX9_init, 2, none, false)
theorem mc_X9_init : Cond.code yX9_init cX9_init 2 none ∈ jW := jW_mem (jtb 19 (by decide +kernel)) (by decide +kernel)
abbrev mX9_one : jMt := (yX9_one, cX9_one, 5, (some .int), false)
theorem mc_X9_one : Cond.code yX9_one cX9_one 5 (some .int) ∈ jW := jW_mem (jtb 284 (by decide +kernel)) (by decide +kernel)
abbrev mX9_leave : jMt := (yX9_leave, cX9_leave, 2, (some .int), false)
theorem mc_X9_leave : Cond.code yX9_leave cX9_leave 2 (some .int) ∈ jW := jW_mem (jtb 305 (by decide +kernel)) (by decide +kernel)
abbrev mX9_set : jMt := (yX9_set, cX9_set, 4, (some .int), false)
theorem mc_X9_set : Cond.code yX9_set cX9_set 4 (some .int) ∈ jW := jW_mem (jtb 318 (by decide +kernel)) (by decide +kernel)
abbrev mX9_say : jMt := (yX9_say, cX9_say, 2, (some .int), false)
theorem mc_X9_say : Cond.code yX9_say cX9_say 2 (some .int) ∈ jW := jW_mem (jtb 322 (by decide +kernel)) (by decide +kernel)
abbrev mX9_wipe : jMt := (yX9_wipe, cX9_wipe, 2, (some .int), false)
theorem mc_X9_wipe : Cond.code yX9_wipe cX9_wipe 2 (some .int) ∈ jW := jW_mem (jtb 330 (by decide +kernel)) (by decide +kernel)
abbrev mX9_fault : jMt := (yX9_fault, cX9_fault, 1, (some .int), false)
theorem mc_X9_fault : Cond.code yX9_fault cX9_fault 1 (some .int) ∈ jW := jW_mem (jtb 334 (by decide +kernel)) (by decide +kernel)
abbrev mX9_judge : jMt := (yX9_judge, cX9_judge, 3, (some .int), false)
theorem mc_X9_judge : Cond.code yX9_judge cX9_judge 3 (some .int) ∈ jW := jW_mem (jtb 349 (by decide +kernel)) (by decide +kernel)
abbrev mX9_behind : jMt := (yX9_behind, cX9_behind, 4, (some .int), false)
theorem mc_X9_behind : Cond.code yX9_behind cX9_behind 4 (some .int) ∈ jW := jW_mem (jtb 420 (by decide +kernel)) (by decide +kernel)
abbrev mX9_basket : jMt := (yX9_basket, cX9_basket, 2, (some .int), false)
theorem mc_X9_basket : Cond.code yX9_basket cX9_basket 2 (some .int) ∈ jW := jW_mem (jtb 424 (by decide +kernel)) (by decide +kernel)
abbrev mX9_passed : jMt := (yX9_passed, cX9_passed, 3, (some .int), false)
theorem mc_X9_passed : Cond.code yX9_passed cX9_passed 3 (some .int) ∈ jW := jW_mem (jtb 428 (by decide +kernel)) (by decide +kernel)
abbrev mX9_oldest : jMt := (yX9_oldest, cX9_oldest, 3, (some .int), false)
theorem mc_X9_oldest : Cond.code yX9_oldest cX9_oldest 3 (some .int) ∈ jW := jW_mem (jtb 432 (by decide +kernel)) (by decide +kernel)
abbrev mX9_done : jMt := (yX9_done, cX9_done, 2, (some .int), false)
theorem mc_X9_done : Cond.code yX9_done cX9_done 2 (some .int) ∈ jW := jW_mem (jtb 436 (by decide +kernel)) (by decide +kernel)
abbrev mX9_lasts : jMt := (yX9_lasts, cX9_lasts, 5, (some .int), false)
theorem mc_X9_lasts : Cond.code yX9_lasts cX9_lasts 5 (some .int) ∈ jW := jW_mem (jtb 441 (by decide +kernel)) (by decide +kernel)
abbrev mX9_keeps : jMt := (yX9_keeps, cX9_keeps, 6, (some .int), false)
theorem mc_X9_keeps : Cond.code yX9_keeps cX9_keeps 6 (some .int) ∈ jW := jW_mem (jtb 445 (by decide +kernel)) (by decide +kernel)
abbrev mX9_plan : jMt := (yX9_plan, cX9_plan, 8, (some .int), false)
theorem mc_X9_plan : Cond.code yX9_plan cX9_plan 8 (some .int) ∈ jW := jW_mem (jtb 502 (by decide +kernel)) (by decide +kernel)
abbrev mX9_envy : jMt := (yX9_envy, cX9_envy, 3, (some .int), false)
theorem mc_X9_envy : Cond.code yX9_envy cX9_envy 3 (some .int) ∈ jW := jW_mem (jtb 514 (by decide +kernel)) (by decide +kernel)
abbrev mX9_refuses : jMt := (yX9_refuses, cX9_refuses, 7, (some .int), false)
theorem mc_X9_refuses : Cond.code yX9_refuses cX9_refuses 7 (some .int) ∈ jW := jW_mem (jtb 540 (by decide +kernel)) (by decide +kernel)
abbrev mX9_seen : jMt := (yX9_seen, cX9_seen, 3, (some .int), false)
theorem mc_X9_seen : Cond.code yX9_seen cX9_seen 3 (some .int) ∈ jW := jW_mem (jtb 546 (by decide +kernel)) (by decide +kernel)
abbrev mX9_forget : jMt := (yX9_forget, cX9_forget, 2, (some .int), false)
theorem mc_X9_forget : Cond.code yX9_forget cX9_forget 2 (some .int) ∈ jW := jW_mem (jtb 554 (by decide +kernel)) (by decide +kernel)
abbrev mX9_gave : jMt := (yX9_gave, cX9_gave, 3, (some .int), false)
theorem mc_X9_gave : Cond.code yX9_gave cX9_gave 3 (some .int) ∈ jW := jW_mem (jtb 558 (by decide +kernel)) (by decide +kernel)
abbrev mX9_ask : jMt := (yX9_ask, cX9_ask, 7, (some .int), false)
theorem mc_X9_ask : Cond.code yX9_ask cX9_ask 7 (some .int) ∈ jW := jW_mem (jtb 575 (by decide +kernel)) (by decide +kernel)
abbrev mX9_thieves : jMt := (yX9_thieves, cX9_thieves, 5, (some .int), false)
theorem mc_X9_thieves : Cond.code yX9_thieves cX9_thieves 5 (some .int) ∈ jW := jW_mem (jtb 584 (by decide +kernel)) (by decide +kernel)
abbrev mX9_worms : jMt := (yX9_worms, cX9_worms, 10, (some .long), false)
theorem mc_X9_worms : Cond.code yX9_worms cX9_worms 10 (some .long) ∈ jW := jW_mem (jtb 588 (by decide +kernel)) (by decide +kernel)
abbrev mX9_year : jMt := (yX9_year, cX9_year, 4, (some .int), false)
theorem mc_X9_year : Cond.code yX9_year cX9_year 4 (some .int) ∈ jW := jW_mem (jtb 614 (by decide +kernel)) (by decide +kernel)
abbrev mX9_image : jMt := (yX9_image, cX9_image, 2, (some .int), false)
theorem mc_X9_image : Cond.code yX9_image cX9_image 2 (some .int) ∈ jW := jW_mem (jtb 633 (by decide +kernel)) (by decide +kernel)
abbrev mX9_restore : jMt := (yX9_restore, cX9_restore, 2, (some .int), false)
theorem mc_X9_restore : Cond.code yX9_restore cX9_restore 2 (some .int) ∈ jW := jW_mem (jtb 647 (by decide +kernel)) (by decide +kernel)
abbrev mX9_told : jMt := (yX9_told, cX9_told, 2, (some .int), false)
theorem mc_X9_told : Cond.code yX9_told cX9_told 2 (some .int) ∈ jW := jW_mem (jtb 655 (by decide +kernel)) (by decide +kernel)
abbrev mX9_toldOf : jMt := (yX9_toldOf, cX9_toldOf, 3, (some .int), false)
theorem mc_X9_toldOf : Cond.code yX9_toldOf cX9_toldOf 3 (some .int) ∈ jW := jW_mem (jtb 659 (by decide +kernel)) (by decide +kernel)
abbrev mX9_liveDays : jMt := (yX9_liveDays, cX9_liveDays, 1, (some .int), false)
theorem mc_X9_liveDays : Cond.code yX9_liveDays cX9_liveDays 1 (some .int) ∈ jW := jW_mem (jtb 353 (by decide +kernel)) (by decide +kernel)
abbrev mX9_refuseKeeping : jMt := (yX9_refuseKeeping, cX9_refuseKeeping, 5, (some .int), false)
theorem mc_X9_refuseKeeping : Cond.code yX9_refuseKeeping cX9_refuseKeeping 5 (some .int) ∈ jW := jW_mem (jtb 449 (by decide +kernel)) (by decide +kernel)
abbrev mX9_within : jMt := (yX9_within, cX9_within, 3, (some .boolean), false)
theorem mc_X9_within : Cond.code yX9_within cX9_within 3 (some .boolean) ∈ jW := jW_mem (jtb 287 (by decide +kernel)) (by decide +kernel)
abbrev mX10_init : jMt := (yX10_init, cX10_init, 1, none, false)
theorem mc_X10_init : Cond.code yX10_init cX10_init 1 none ∈ jW := jW_mem (jtb 664 (by decide +kernel)) (by decide +kernel)
abbrev mX10_in : jMt := (yX10_in, cX10_in, 6, (some .boolean), false)
theorem mc_X10_in : Cond.code yX10_in cX10_in 6 (some .boolean) ∈ jW := jW_mem (jtb 791 (by decide +kernel)) (by decide +kernel)
abbrev mX10_ones : jMt := (yX10_ones, cX10_ones, 3, (some .int), false)
theorem mc_X10_ones : Cond.code yX10_ones cX10_ones 3 (some .int) ∈ jW := jW_mem (jtb 796 (by decide +kernel)) (by decide +kernel)
abbrev mX10_isOne : jMt := (yX10_isOne, cX10_isOne, 2, (some .boolean), false)
theorem mc_X10_isOne : Cond.code yX10_isOne cX10_isOne 2 (some .boolean) ∈ jW := jW_mem (jtb 804 (by decide +kernel)) (by decide +kernel)
abbrev mX10_one : jMt := (yX10_one, cX10_one, 5, (some .int), false)
theorem mc_X10_one : Cond.code yX10_one cX10_one 5 (some .int) ∈ jW := jW_mem (jtb 787 (by decide +kernel)) (by decide +kernel)
abbrev mX10_leave : jMt := (yX10_leave, cX10_leave, 2, (some .int), false)
theorem mc_X10_leave : Cond.code yX10_leave cX10_leave 2 (some .int) ∈ jW := jW_mem (jtb 800 (by decide +kernel)) (by decide +kernel)
abbrev mX10_set : jMt := (yX10_set, cX10_set, 4, (some .int), false)
theorem mc_X10_set : Cond.code yX10_set cX10_set 4 (some .int) ∈ jW := jW_mem (jtb 808 (by decide +kernel)) (by decide +kernel)
abbrev mX10_say : jMt := (yX10_say, cX10_say, 2, (some .int), false)
theorem mc_X10_say : Cond.code yX10_say cX10_say 2 (some .int) ∈ jW := jW_mem (jtb 814 (by decide +kernel)) (by decide +kernel)
abbrev mX10_wipe : jMt := (yX10_wipe, cX10_wipe, 2, (some .int), false)
theorem mc_X10_wipe : Cond.code yX10_wipe cX10_wipe 2 (some .int) ∈ jW := jW_mem (jtb 820 (by decide +kernel)) (by decide +kernel)
abbrev mX10_isLetter : jMt := (yX10_isLetter, cX10_isLetter, 1, (some .boolean), false)
theorem mc_X10_isLetter : Cond.code yX10_isLetter cX10_isLetter 1 (some .boolean) ∈ jW := jW_mem (jtb 831 (by decide +kernel)) (by decide +kernel)
abbrev mX10_close : jMt := (yX10_close, cX10_close, 3, (some .int), false)
theorem mc_X10_close : Cond.code yX10_close cX10_close 3 (some .int) ∈ jW := jW_mem (jtb 837 (by decide +kernel)) (by decide +kernel)
abbrev mX10_readOn : jMt := (yX10_readOn, cX10_readOn, 3, (some .int), false)
theorem mc_X10_readOn : Cond.code yX10_readOn cX10_readOn 3 (some .int) ∈ jW := jW_mem (jtb 828 (by decide +kernel)) (by decide +kernel)
abbrev mX10_fault : jMt := (yX10_fault, cX10_fault, 3, (some .int), false)
theorem mc_X10_fault : Cond.code yX10_fault cX10_fault 3 (some .int) ∈ jW := jW_mem (jtb 824 (by decide +kernel)) (by decide +kernel)
abbrev mX10_whyNotGive : jMt := (yX10_whyNotGive, cX10_whyNotGive, 3, (some .int), false)
theorem mc_X10_whyNotGive : Cond.code yX10_whyNotGive cX10_whyNotGive 3 (some .int) ∈ jW := jW_mem (jtb 866 (by decide +kernel)) (by decide +kernel)
abbrev mX10_whyNot : jMt := (yX10_whyNot, cX10_whyNot, 5, (some .int), false)
theorem mc_X10_whyNot : Cond.code yX10_whyNot cX10_whyNot 5 (some .int) ∈ jW := jW_mem (jtb 862 (by decide +kernel)) (by decide +kernel)
abbrev mX10_lookBehind : jMt := (yX10_lookBehind, cX10_lookBehind, 6, (some .int), false)
theorem mc_X10_lookBehind : Cond.code yX10_lookBehind cX10_lookBehind 6 (some .int) ∈ jW := jW_mem (jtb 882 (by decide +kernel)) (by decide +kernel)
abbrev mX10_oldestNow : jMt := (yX10_oldestNow, cX10_oldestNow, 3, (some .int), false)
theorem mc_X10_oldestNow : Cond.code yX10_oldestNow cX10_oldestNow 3 (some .int) ∈ jW := jW_mem (jtb 890 (by decide +kernel)) (by decide +kernel)
abbrev mX10_passing : jMt := (yX10_passing, cX10_passing, 6, (some .int), false)
theorem mc_X10_passing : Cond.code yX10_passing cX10_passing 6 (some .int) ∈ jW := jW_mem (jtb 886 (by decide +kernel)) (by decide +kernel)
abbrev mX10_passMorning : jMt := (yX10_passMorning, cX10_passMorning, 2, none, false)
theorem mc_X10_passMorning : Cond.code yX10_passMorning cX10_passMorning 2 none ∈ jW := jW_mem (jtb 878 (by decide +kernel)) (by decide +kernel)
abbrev mX10_eat : jMt := (yX10_eat, cX10_eat, 3, none, false)
theorem mc_X10_eat : Cond.code yX10_eat cX10_eat 3 none ∈ jW := jW_mem (jtb 874 (by decide +kernel)) (by decide +kernel)
abbrev mX10_happen : jMt := (yX10_happen, cX10_happen, 4, none, false)
theorem mc_X10_happen : Cond.code yX10_happen cX10_happen 4 none ∈ jW := jW_mem (jtb 870 (by decide +kernel)) (by decide +kernel)
abbrev mX10_keepNow : jMt := (yX10_keepNow, cX10_keepNow, 2, none, false)
theorem mc_X10_keepNow : Cond.code yX10_keepNow cX10_keepNow 2 none ∈ jW := jW_mem (jtb 849 (by decide +kernel)) (by decide +kernel)
abbrev mX10_back : jMt := (yX10_back, cX10_back, 3, (some .int), false)
theorem mc_X10_back : Cond.code yX10_back cX10_back 3 (some .int) ∈ jW := jW_mem (jtb 894 (by decide +kernel)) (by decide +kernel)
abbrev mX10_beginCount : jMt := (yX10_beginCount, cX10_beginCount, 1, none, false)
theorem mc_X10_beginCount : Cond.code yX10_beginCount cX10_beginCount 1 none ∈ jW := jW_mem (jtb 858 (by decide +kernel)) (by decide +kernel)
abbrev mX10_goDays : jMt := (yX10_goDays, cX10_goDays, 3, none, false)
theorem mc_X10_goDays : Cond.code yX10_goDays cX10_goDays 3 none ∈ jW := jW_mem (jtb 854 (by decide +kernel)) (by decide +kernel)
abbrev mX10_refusal : jMt := (yX10_refusal, cX10_refusal, 1, (some .int), false)
theorem mc_X10_refusal : Cond.code yX10_refusal cX10_refusal 1 (some .int) ∈ jW := jW_mem (jtb 845 (by decide +kernel)) (by decide +kernel)
abbrev mX10_judge : jMt := (yX10_judge, cX10_judge, 3, (some .int), false)
theorem mc_X10_judge : Cond.code yX10_judge cX10_judge 3 (some .int) ∈ jW := jW_mem (jtb 841 (by decide +kernel)) (by decide +kernel)
abbrev mX10_behind : jMt := (yX10_behind, cX10_behind, 5, (some .int), false)
theorem mc_X10_behind : Cond.code yX10_behind cX10_behind 5 (some .int) ∈ jW := jW_mem (jtb 898 (by decide +kernel)) (by decide +kernel)
abbrev mX10_basket : jMt := (yX10_basket, cX10_basket, 2, (some .int), false)
theorem mc_X10_basket : Cond.code yX10_basket cX10_basket 2 (some .int) ∈ jW := jW_mem (jtb 902 (by decide +kernel)) (by decide +kernel)
abbrev mX10_passed : jMt := (yX10_passed, cX10_passed, 3, (some .int), false)
theorem mc_X10_passed : Cond.code yX10_passed cX10_passed 3 (some .int) ∈ jW := jW_mem (jtb 906 (by decide +kernel)) (by decide +kernel)
abbrev mX10_oldest : jMt := (yX10_oldest, cX10_oldest, 3, (some .int), false)
theorem mc_X10_oldest : Cond.code yX10_oldest cX10_oldest 3 (some .int) ∈ jW := jW_mem (jtb 910 (by decide +kernel)) (by decide +kernel)
abbrev mX10_done : jMt := (yX10_done, cX10_done, 2, (some .int), false)
theorem mc_X10_done : Cond.code yX10_done cX10_done 2 (some .int) ∈ jW := jW_mem (jtb 914 (by decide +kernel)) (by decide +kernel)
abbrev mX10_lasts : jMt := (yX10_lasts, cX10_lasts, 3, (some .int), false)
theorem mc_X10_lasts : Cond.code yX10_lasts cX10_lasts 3 (some .int) ∈ jW := jW_mem (jtb 918 (by decide +kernel)) (by decide +kernel)
abbrev mX10_ageAt : jMt := (yX10_ageAt, cX10_ageAt, 4, (some .int), false)
theorem mc_X10_ageAt : Cond.code yX10_ageAt cX10_ageAt 4 (some .int) ∈ jW := jW_mem (jtb 944 (by decide +kernel)) (by decide +kernel)
abbrev mX10_layAges : jMt := (yX10_layAges, cX10_layAges, 8, none, false)
theorem mc_X10_layAges : Cond.code yX10_layAges cX10_layAges 8 none ∈ jW := jW_mem (jtb 936 (by decide +kernel)) (by decide +kernel)
abbrev mX10_layAgeThen : jMt := (yX10_layAgeThen, cX10_layAgeThen, 8, none, false)
theorem mc_X10_layAgeThen : Cond.code yX10_layAgeThen cX10_layAgeThen 8 none ∈ jW := jW_mem (jtb 940 (by decide +kernel)) (by decide +kernel)
abbrev mX10_stateOf : jMt := (yX10_stateOf, cX10_stateOf, 3, (some .int), false)
theorem mc_X10_stateOf : Cond.code yX10_stateOf cX10_stateOf 3 (some .int) ∈ jW := jW_mem (jtb 966 (by decide +kernel)) (by decide +kernel)
abbrev mX10_thenOf : jMt := (yX10_thenOf, cX10_thenOf, 8, (some .int), false)
theorem mc_X10_thenOf : Cond.code yX10_thenOf cX10_thenOf 8 (some .int) ∈ jW := jW_mem (jtb 963 (by decide +kernel)) (by decide +kernel)
abbrev mX10_halvesOf : jMt := (yX10_halvesOf, cX10_halvesOf, 1, (some .int), false)
theorem mc_X10_halvesOf : Cond.code yX10_halvesOf cX10_halvesOf 1 (some .int) ∈ jW := jW_mem (jtb 959 (by decide +kernel)) (by decide +kernel)
abbrev mX10_halvesBy : jMt := (yX10_halvesBy, cX10_halvesBy, 8, (some .int), false)
theorem mc_X10_halvesBy : Cond.code yX10_halvesBy cX10_halvesBy 8 (some .int) ∈ jW := jW_mem (jtb 956 (by decide +kernel)) (by decide +kernel)
abbrev mX10_manyAt : jMt := (yX10_manyAt, cX10_manyAt, 3, (some .int), false)
theorem mc_X10_manyAt : Cond.code yX10_manyAt cX10_manyAt 3 (some .int) ∈ jW := jW_mem (jtb 952 (by decide +kernel)) (by decide +kernel)
abbrev mX10_layHalves : jMt := (yX10_layHalves, cX10_layHalves, 9, none, false)
theorem mc_X10_layHalves : Cond.code yX10_layHalves cX10_layHalves 9 none ∈ jW := jW_mem (jtb 948 (by decide +kernel)) (by decide +kernel)
abbrev mX10_findPlan : jMt := (yX10_findPlan, cX10_findPlan, 7, none, false)
theorem mc_X10_findPlan : Cond.code yX10_findPlan cX10_findPlan 7 none ∈ jW := jW_mem (jtb 932 (by decide +kernel)) (by decide +kernel)
abbrev mX10_planRefusal : jMt := (yX10_planRefusal, cX10_planRefusal, 5, (some .int), false)
theorem mc_X10_planRefusal : Cond.code yX10_planRefusal cX10_planRefusal 5 (some .int) ∈ jW := jW_mem (jtb 926 (by decide +kernel)) (by decide +kernel)
abbrev mX10_keeps : jMt := (yX10_keeps, cX10_keeps, 7, (some .int), false)
theorem mc_X10_keeps : Cond.code yX10_keeps cX10_keeps 7 (some .int) ∈ jW := jW_mem (jtb 922 (by decide +kernel)) (by decide +kernel)
abbrev mX10_firstHow : jMt := (yX10_firstHow, cX10_firstHow, 8, (some .int), false)
theorem mc_X10_firstHow : Cond.code yX10_firstHow cX10_firstHow 8 (some .int) ∈ jW := jW_mem (jtb 974 (by decide +kernel)) (by decide +kernel)
abbrev mX10_plan : jMt := (yX10_plan, cX10_plan, 11, (some .int), false)
theorem mc_X10_plan : Cond.code yX10_plan cX10_plan 11 (some .int) ∈ jW := jW_mem (jtb 970 (by decide +kernel)) (by decide +kernel)
abbrev mX10_isEnvyless : jMt := (yX10_isEnvyless, cX10_isEnvyless, 6, (some .boolean), false)
theorem mc_X10_isEnvyless : Cond.code yX10_isEnvyless cX10_isEnvyless 6 (some .boolean) ∈ jW := jW_mem (jtb 987 (by decide +kernel)) (by decide +kernel)
abbrev mX10_shareOf : jMt := (yX10_shareOf, cX10_shareOf, 8, (some .int), false)
theorem mc_X10_shareOf : Cond.code yX10_shareOf cX10_shareOf 8 (some .int) ∈ jW := jW_mem (jtb 983 (by decide +kernel)) (by decide +kernel)
abbrev mX10_envy : jMt := (yX10_envy, cX10_envy, 7, (some .int), false)
theorem mc_X10_envy : Cond.code yX10_envy cX10_envy 7 (some .int) ∈ jW := jW_mem (jtb 978 (by decide +kernel)) (by decide +kernel)
abbrev mX10_refuses : jMt := (yX10_refuses, cX10_refuses, 6, (some .int), false)
theorem mc_X10_refuses : Cond.code yX10_refuses cX10_refuses 6 (some .int) ∈ jW := jW_mem (jtb 991 (by decide +kernel)) (by decide +kernel)
abbrev mX10_seen : jMt := (yX10_seen, cX10_seen, 3, (some .int), false)
theorem mc_X10_seen : Cond.code yX10_seen cX10_seen 3 (some .int) ∈ jW := jW_mem (jtb 996 (by decide +kernel)) (by decide +kernel)
abbrev mX10_forget : jMt := (yX10_forget, cX10_forget, 2, (some .int), false)
theorem mc_X10_forget : Cond.code yX10_forget cX10_forget 2 (some .int) ∈ jW := jW_mem (jtb 1000 (by decide +kernel)) (by decide +kernel)
abbrev mX10_lookedBy : jMt := (yX10_lookedBy, cX10_lookedBy, 3, (some .int), false)
theorem mc_X10_lookedBy : Cond.code yX10_lookedBy cX10_lookedBy 3 (some .int) ∈ jW := jW_mem (jtb 1016 (by decide +kernel)) (by decide +kernel)
abbrev mX10_fits : jMt := (yX10_fits, cX10_fits, 5, (some .boolean), false)
theorem mc_X10_fits : Cond.code yX10_fits cX10_fits 5 (some .boolean) ∈ jW := jW_mem (jtb 1012 (by decide +kernel)) (by decide +kernel)
abbrev mX10_givers : jMt := (yX10_givers, cX10_givers, 3, (some .int), false)
theorem mc_X10_givers : Cond.code yX10_givers cX10_givers 3 (some .int) ∈ jW := jW_mem (jtb 1008 (by decide +kernel)) (by decide +kernel)
abbrev mX10_gave : jMt := (yX10_gave, cX10_gave, 2, (some .int), false)
theorem mc_X10_gave : Cond.code yX10_gave cX10_gave 2 (some .int) ∈ jW := jW_mem (jtb 1004 (by decide +kernel)) (by decide +kernel)
abbrev mX10_mostAlike : jMt := (yX10_mostAlike, cX10_mostAlike, 8, (some .int), false)
theorem mc_X10_mostAlike : Cond.code yX10_mostAlike cX10_mostAlike 8 (some .int) ∈ jW := jW_mem (jtb 1024 (by decide +kernel)) (by decide +kernel)
abbrev mX10_ask : jMt := (yX10_ask, cX10_ask, 5, (some .int), false)
theorem mc_X10_ask : Cond.code yX10_ask cX10_ask 5 (some .int) ∈ jW := jW_mem (jtb 1020 (by decide +kernel)) (by decide +kernel)
abbrev mX10_thieves : jMt := (yX10_thieves, cX10_thieves, 5, (some .int), false)
theorem mc_X10_thieves : Cond.code yX10_thieves cX10_thieves 5 (some .int) ∈ jW := jW_mem (jtb 1028 (by decide +kernel)) (by decide +kernel)
abbrev mX10_lowest : jMt := (yX10_lowest, cX10_lowest, 11, (some .long), false)
theorem mc_X10_lowest : Cond.code yX10_lowest cX10_lowest 11 (some .long) ∈ jW := jW_mem (jtb 1043 (by decide +kernel)) (by decide +kernel)
abbrev mX10_wormyDay : jMt := (yX10_wormyDay, cX10_wormyDay, 4, none, false)
theorem mc_X10_wormyDay : Cond.code yX10_wormyDay cX10_wormyDay 4 none ∈ jW := jW_mem (jtb 1040 (by decide +kernel)) (by decide +kernel)
abbrev mX10_worms : jMt := (yX10_worms, cX10_worms, 11, (some .long), false)
theorem mc_X10_worms : Cond.code yX10_worms cX10_worms 11 (some .long) ∈ jW := jW_mem (jtb 1032 (by decide +kernel)) (by decide +kernel)
abbrev mX10_year : jMt := (yX10_year, cX10_year, 9, (some .int), false)
theorem mc_X10_year : Cond.code yX10_year cX10_year 9 (some .int) ∈ jW := jW_mem (jtb 1047 (by decide +kernel)) (by decide +kernel)
abbrev mX10_pass : jMt := (yX10_pass, cX10_pass, 3, (some .int), false)
theorem mc_X10_pass : Cond.code yX10_pass cX10_pass 3 (some .int) ∈ jW := jW_mem (jtb 1063 (by decide +kernel)) (by decide +kernel)
abbrev mX10_passAll : jMt := (yX10_passAll, cX10_passAll, 2, none, false)
theorem mc_X10_passAll : Cond.code yX10_passAll cX10_passAll 2 none ∈ jW := jW_mem (jtb 1059 (by decide +kernel)) (by decide +kernel)
abbrev mX10_image : jMt := (yX10_image, cX10_image, 2, (some .int), false)
theorem mc_X10_image : Cond.code yX10_image cX10_image 2 (some .int) ∈ jW := jW_mem (jtb 1055 (by decide +kernel)) (by decide +kernel)
abbrev mX10_restore : jMt := (yX10_restore, cX10_restore, 2, (some .int), false)
theorem mc_X10_restore : Cond.code yX10_restore cX10_restore 2 (some .int) ∈ jW := jW_mem (jtb 1067 (by decide +kernel)) (by decide +kernel)
abbrev mX10_toldOf : jMt := (yX10_toldOf, cX10_toldOf, 3, (some .int), false)
theorem mc_X10_toldOf : Cond.code yX10_toldOf cX10_toldOf 3 (some .int) ∈ jW := jW_mem (jtb 1076 (by decide +kernel)) (by decide +kernel)
abbrev mX10_told : jMt := (yX10_told, cX10_told, 2, (some .int), false)
theorem mc_X10_told : Cond.code yX10_told cX10_told 2 (some .int) ∈ jW := jW_mem (jtb 1071 (by decide +kernel)) (by decide +kernel)
abbrev mJ6_compare_7cf53 : jMt := (yJ6_compare_7cf53, cJ6_compare_7cf53, 2, (some .int), false)
theorem mc_J6_compare_7cf53 : Cond.code yJ6_compare_7cf53 cJ6_compare_7cf53 2 (some .int) ∈ jW := jW_mem (jtb 412 (by decide +kernel)) (by decide +kernel)
abbrev mJ6_bitCount_0f7a4 : jMt := (yJ6_bitCount_0f7a4, cJ6_bitCount_0f7a4, 1, (some .int), false)
theorem mc_J6_bitCount_0f7a4 : Cond.code yJ6_bitCount_0f7a4 cJ6_bitCount_0f7a4 1 (some .int) ∈ jW := jW_mem (jtb 298 (by decide +kernel)) (by decide +kernel)
abbrev mJ9_max_7cf53 : jMt := (yJ9_max_7cf53, cJ9_max_7cf53, 2, (some .int), false)
theorem mc_J9_max_7cf53 : Cond.code yJ9_max_7cf53 cJ9_max_7cf53 2 (some .int) ∈ jW := jW_mem (jtb 395 (by decide +kernel)) (by decide +kernel)
abbrev mJ9_max_f86c9 : jMt := (yJ9_max_f86c9, cJ9_max_f86c9, 4, (some .long), false)
theorem mc_J9_max_f86c9 : Cond.code yJ9_max_f86c9 cJ9_max_f86c9 4 (some .long) ∈ jW := jW_mem (jtb 610 (by decide +kernel)) (by decide +kernel)
abbrev mJ9_min_7cf53 : jMt := (yJ9_min_7cf53, cJ9_min_7cf53, 2, (some .int), false)
theorem mc_J9_min_7cf53 : Cond.code yJ9_min_7cf53 cJ9_min_7cf53 2 (some .int) ∈ jW := jW_mem (jtb 392 (by decide +kernel)) (by decide +kernel)
theorem wi_J6 : Cond.initialized RJ6 ∈ jW := jW_mem (jtb 11 (by decide +kernel)) (by decide +kernel)
theorem wi_J9 : Cond.initialized RJ9 ∈ jW := jW_mem (jtb 13 (by decide +kernel)) (by decide +kernel)
theorem wi_X0 : Cond.initialized RX0 ∈ jW := jW_mem (jtb 4 (by decide +kernel)) (by decide +kernel)
theorem wi_X1 : Cond.initialized RX1 ∈ jW := jW_mem (jtb 2 (by decide +kernel)) (by decide +kernel)
theorem wi_X10 : Cond.initialized RX10 ∈ jW := jW_mem (jtb 10 (by decide +kernel)) (by decide +kernel)
theorem wi_X2 : Cond.initialized RX2 ∈ jW := jW_mem (jtb 9 (by decide +kernel)) (by decide +kernel)
theorem wi_X3 : Cond.initialized RX3 ∈ jW := jW_mem (jtb 5 (by decide +kernel)) (by decide +kernel)
theorem wi_X4 : Cond.initialized RX4 ∈ jW := jW_mem (jtb 3 (by decide +kernel)) (by decide +kernel)
theorem wi_X5 : Cond.initialized RX5 ∈ jW := jW_mem (jtb 6 (by decide +kernel)) (by decide +kernel)
theorem wi_X6 : Cond.initialized RX6 ∈ jW := jW_mem (jtb 7 (by decide +kernel)) (by decide +kernel)
theorem wi_X7 : Cond.initialized RX7 ∈ jW := jW_mem (jtb 14 (by decide +kernel)) (by decide +kernel)
theorem wi_X8 : Cond.initialized RX8 ∈ jW := jW_mem (jtb 8 (by decide +kernel)) (by decide +kernel)
theorem wi_X9 : Cond.initialized RX9 ∈ jW := jW_mem (jtb 1 (by decide +kernel)) (by decide +kernel)
theorem md_X0_init : jMd mX0_init 0 := ⟨rfl, by decide +kernel, mc_X0_init, wi_X0, ⟨by decide +kernel, by decide +kernel, by decide +kernel⟩, Nat.le_of_ble_eq_true rfl⟩
theorem im_X0_init : Cond.instanceMethod yX0_init ∈ jW := jW_mem (jtb 103 (by decide +kernel)) (by decide +kernel)
theorem md_X0_live : jMd mX0_live 2 := ⟨rfl, by decide +kernel, mc_X0_live, wi_X0, ⟨by decide +kernel, by decide +kernel, by decide +kernel⟩, Nat.le_of_ble_eq_true rfl⟩
theorem im_X0_live : Cond.instanceMethod yX0_live ∈ jW := jW_mem (jtb 355 (by decide +kernel)) (by decide +kernel)
theorem se_X0_live : Cond.selects yX0_live.cls yX0_live yX0_live ∈ jW := jW_mem (jtb 356 (by decide +kernel)) (by decide +kernel)
theorem md_X0_tellMorning : jMd mX0_tellMorning 0 := ⟨rfl, by decide +kernel, mc_X0_tellMorning, wi_X0, ⟨by decide +kernel, by decide +kernel, by decide +kernel⟩, Nat.le_of_ble_eq_true rfl⟩
theorem im_X0_tellMorning : Cond.instanceMethod yX0_tellMorning ∈ jW := jW_mem (jtb 399 (by decide +kernel)) (by decide +kernel)
theorem se_X0_tellMorning : Cond.selects yX0_tellMorning.cls yX0_tellMorning yX0_tellMorning ∈ jW := jW_mem (jtp (q := (⟨"MorningBite$Days", "tellMorning", "()V"⟩, 8)) 4 (by decide +kernel)) (by decide +kernel)
theorem md_X0_leastPass : jMd mX0_leastPass 0 := ⟨rfl, by decide +kernel, mc_X0_leastPass, wi_X0, ⟨by decide +kernel, by decide +kernel, by decide +kernel⟩, Nat.le_of_ble_eq_true rfl⟩
theorem im_X0_leastPass : Cond.instanceMethod yX0_leastPass ∈ jW := jW_mem (jtb 403 (by decide +kernel)) (by decide +kernel)
theorem se_X0_leastPass : Cond.selects yX0_leastPass.cls yX0_leastPass yX0_leastPass ∈ jW := jW_mem (jtp (q := (⟨"MorningBite$Days", "leastPass", "()I"⟩, 8)) 5 (by decide +kernel)) (by decide +kernel)
theorem md_X0_hasPassed : jMd mX0_hasPassed 2 := ⟨rfl, by decide +kernel, mc_X0_hasPassed, wi_X0, ⟨by decide +kernel, by decide +kernel, by decide +kernel⟩, Nat.le_of_ble_eq_true rfl⟩
theorem im_X0_hasPassed : Cond.instanceMethod yX0_hasPassed ∈ jW := jW_mem (jtb 408 (by decide +kernel)) (by decide +kernel)
theorem se_X0_hasPassed : Cond.selects yX0_hasPassed.cls yX0_hasPassed yX0_hasPassed ∈ jW := jW_mem (jtp (q := (⟨"MorningBite$Days", "hasPassed", "(II)Z"⟩, 8)) 6 (by decide +kernel)) (by decide +kernel)
theorem md_X1_init : jMd mX1_init 0 := ⟨rfl, by decide +kernel, mc_X1_init, wi_X1, ⟨by decide +kernel, by decide +kernel, by decide +kernel⟩, Nat.le_of_ble_eq_true rfl⟩
theorem im_X1_init : Cond.instanceMethod yX1_init ∈ jW := jW_mem (jtb 26 (by decide +kernel)) (by decide +kernel)
theorem md_X1_has : jMd mX1_has 1 := ⟨rfl, by decide +kernel, mc_X1_has, wi_X1, ⟨by decide +kernel, by decide +kernel, by decide +kernel⟩, Nat.le_of_ble_eq_true rfl⟩
theorem im_X1_has : Cond.instanceMethod yX1_has ∈ jW := jW_mem (jtb 307 (by decide +kernel)) (by decide +kernel)
theorem se_X1_has : Cond.selects yX1_has.cls yX1_has yX1_has ∈ jW := jW_mem (jtb 308 (by decide +kernel)) (by decide +kernel)
theorem md_X1_people : jMd mX1_people 0 := ⟨rfl, by decide +kernel, mc_X1_people, wi_X1, ⟨by decide +kernel, by decide +kernel, by decide +kernel⟩, Nat.le_of_ble_eq_true rfl⟩
theorem im_X1_people : Cond.instanceMethod yX1_people ∈ jW := jW_mem (jtb 293 (by decide +kernel)) (by decide +kernel)
theorem se_X1_people : Cond.selects yX1_people.cls yX1_people yX1_people ∈ jW := jW_mem (jtb 294 (by decide +kernel)) (by decide +kernel)
theorem md_X1_settle : jMd mX1_settle 4 := ⟨rfl, by decide +kernel, mc_X1_settle, wi_X1, ⟨by decide +kernel, by decide +kernel, by decide +kernel⟩, Nat.le_of_ble_eq_true rfl⟩
theorem im_X1_settle : Cond.instanceMethod yX1_settle ∈ jW := jW_mem (jtb 289 (by decide +kernel)) (by decide +kernel)
theorem se_X1_settle : Cond.selects yX1_settle.cls yX1_settle yX1_settle ∈ jW := jW_mem (jtb 290 (by decide +kernel)) (by decide +kernel)
theorem md_X1_drop : jMd mX1_drop 1 := ⟨rfl, by decide +kernel, mc_X1_drop, wi_X1, ⟨by decide +kernel, by decide +kernel, by decide +kernel⟩, Nat.le_of_ble_eq_true rfl⟩
theorem im_X1_drop : Cond.instanceMethod yX1_drop ∈ jW := jW_mem (jtb 311 (by decide +kernel)) (by decide +kernel)
theorem se_X1_drop : Cond.selects yX1_drop.cls yX1_drop yX1_drop ∈ jW := jW_mem (jtb 312 (by decide +kernel)) (by decide +kernel)
theorem md_X1_takeOver : jMd mX1_takeOver 1 := ⟨rfl, by decide +kernel, mc_X1_takeOver, wi_X1, ⟨by decide +kernel, by decide +kernel, by decide +kernel⟩, Nat.le_of_ble_eq_true rfl⟩
theorem im_X1_takeOver : Cond.instanceMethod yX1_takeOver ∈ jW := jW_mem (jtb 359 (by decide +kernel)) (by decide +kernel)
theorem se_X1_takeOver : Cond.selects yX1_takeOver.cls yX1_takeOver yX1_takeOver ∈ jW := jW_mem (jtb 360 (by decide +kernel)) (by decide +kernel)
theorem md_X1_whyNot : jMd mX1_whyNot 3 := ⟨rfl, by decide +kernel, mc_X1_whyNot, wi_X1, ⟨by decide +kernel, by decide +kernel, by decide +kernel⟩, Nat.le_of_ble_eq_true rfl⟩
theorem im_X1_whyNot : Cond.instanceMethod yX1_whyNot ∈ jW := jW_mem (jtb 366 (by decide +kernel)) (by decide +kernel)
theorem se_X1_whyNot : Cond.selects yX1_whyNot.cls yX1_whyNot yX1_whyNot ∈ jW := jW_mem (jtb 367 (by decide +kernel)) (by decide +kernel)
theorem md_X1_whyNotGive : jMd mX1_whyNotGive 2 := ⟨rfl, by decide +kernel, mc_X1_whyNotGive, wi_X1, ⟨by decide +kernel, by decide +kernel, by decide +kernel⟩, Nat.le_of_ble_eq_true rfl⟩
theorem im_X1_whyNotGive : Cond.instanceMethod yX1_whyNotGive ∈ jW := jW_mem (jtb 371 (by decide +kernel)) (by decide +kernel)
theorem se_X1_whyNotGive : Cond.selects yX1_whyNotGive.cls yX1_whyNotGive yX1_whyNotGive ∈ jW := jW_mem (jtp (q := (⟨"MorningBite$Hill", "whyNotGive", "(II)I"⟩, 8)) 2 (by decide +kernel)) (by decide +kernel)
theorem md_X1_halvesOf : jMd mX1_halvesOf 1 := ⟨rfl, by decide +kernel, mc_X1_halvesOf, wi_X1, ⟨by decide +kernel, by decide +kernel, by decide +kernel⟩, Nat.le_of_ble_eq_true rfl⟩
theorem is_X1_halvesOf : Cond.static yX1_halvesOf ∈ jW := jW_mem (jtb 374 (by decide +kernel)) (by decide +kernel)
theorem md_X1_act : jMd mX1_act 3 := ⟨rfl, by decide +kernel, mc_X1_act, wi_X1, ⟨by decide +kernel, by decide +kernel, by decide +kernel⟩, Nat.le_of_ble_eq_true rfl⟩
theorem im_X1_act : Cond.instanceMethod yX1_act ∈ jW := jW_mem (jtb 378 (by decide +kernel)) (by decide +kernel)
theorem se_X1_act : Cond.selects yX1_act.cls yX1_act yX1_act ∈ jW := jW_mem (jtb 379 (by decide +kernel)) (by decide +kernel)
theorem md_X1_wake : jMd mX1_wake 0 := ⟨rfl, by decide +kernel, mc_X1_wake, wi_X1, ⟨by decide +kernel, by decide +kernel, by decide +kernel⟩, Nat.le_of_ble_eq_true rfl⟩
theorem im_X1_wake : Cond.instanceMethod yX1_wake ∈ jW := jW_mem (jtb 384 (by decide +kernel)) (by decide +kernel)
theorem se_X1_wake : Cond.selects yX1_wake.cls yX1_wake yX1_wake ∈ jW := jW_mem (jtp (q := (⟨"MorningBite$Hill", "wake", "()V"⟩, 8)) 3 (by decide +kernel)) (by decide +kernel)
theorem md_X1_aged : jMd mX1_aged 3 := ⟨rfl, by decide +kernel, mc_X1_aged, wi_X1, ⟨by decide +kernel, by decide +kernel, by decide +kernel⟩, Nat.le_of_ble_eq_true rfl⟩
theorem im_X1_aged : Cond.instanceMethod yX1_aged ∈ jW := jW_mem (jtb 387 (by decide +kernel)) (by decide +kernel)
theorem se_X1_aged : Cond.selects yX1_aged.cls yX1_aged yX1_aged ∈ jW := jW_mem (jtb 388 (by decide +kernel)) (by decide +kernel)
theorem md_X1_oldestOne : jMd mX1_oldestOne 0 := ⟨rfl, by decide +kernel, mc_X1_oldestOne, wi_X1, ⟨by decide +kernel, by decide +kernel, by decide +kernel⟩, Nat.le_of_ble_eq_true rfl⟩
theorem im_X1_oldestOne : Cond.instanceMethod yX1_oldestOne ∈ jW := jW_mem (jtb 414 (by decide +kernel)) (by decide +kernel)
theorem se_X1_oldestOne : Cond.selects yX1_oldestOne.cls yX1_oldestOne yX1_oldestOne ∈ jW := jW_mem (jtb 415 (by decide +kernel)) (by decide +kernel)
theorem md_X1_looksTogether : jMd mX1_looksTogether 0 := ⟨rfl, by decide +kernel, mc_X1_looksTogether, wi_X1, ⟨by decide +kernel, by decide +kernel, by decide +kernel⟩, Nat.le_of_ble_eq_true rfl⟩
theorem im_X1_looksTogether : Cond.instanceMethod yX1_looksTogether ∈ jW := jW_mem (jtb 626 (by decide +kernel)) (by decide +kernel)
theorem se_X1_looksTogether : Cond.selects yX1_looksTogether.cls yX1_looksTogether yX1_looksTogether ∈ jW := jW_mem (jtb 627 (by decide +kernel)) (by decide +kernel)
theorem md_X2_init : jMd mX2_init 0 := ⟨rfl, by decide +kernel, mc_X2_init, wi_X2, ⟨by decide +kernel, by decide +kernel, by decide +kernel⟩, Nat.le_of_ble_eq_true rfl⟩
theorem im_X2_init : Cond.instanceMethod yX2_init ∈ jW := jW_mem (jtb 238 (by decide +kernel)) (by decide +kernel)
theorem md_X2_keep : jMd mX2_keep 2 := ⟨rfl, by decide +kernel, mc_X2_keep, wi_X2, ⟨by decide +kernel, by decide +kernel, by decide +kernel⟩, Nat.le_of_ble_eq_true rfl⟩
theorem im_X2_keep : Cond.instanceMethod yX2_keep ∈ jW := jW_mem (jtb 635 (by decide +kernel)) (by decide +kernel)
theorem se_X2_keep : Cond.selects yX2_keep.cls yX2_keep yX2_keep ∈ jW := jW_mem (jtb 636 (by decide +kernel)) (by decide +kernel)
theorem md_X2_giveBack : jMd mX2_giveBack 2 := ⟨rfl, by decide +kernel, mc_X2_giveBack, wi_X2, ⟨by decide +kernel, by decide +kernel, by decide +kernel⟩, Nat.le_of_ble_eq_true rfl⟩
theorem im_X2_giveBack : Cond.instanceMethod yX2_giveBack ∈ jW := jW_mem (jtb 649 (by decide +kernel)) (by decide +kernel)
theorem se_X2_giveBack : Cond.selects yX2_giveBack.cls yX2_giveBack yX2_giveBack ∈ jW := jW_mem (jtb 650 (by decide +kernel)) (by decide +kernel)
theorem md_X3_init : jMd mX3_init 0 := ⟨rfl, by decide +kernel, mc_X3_init, wi_X3, ⟨by decide +kernel, by decide +kernel, by decide +kernel⟩, Nat.le_of_ble_eq_true rfl⟩
theorem im_X3_init : Cond.instanceMethod yX3_init ∈ jW := jW_mem (jtb 143 (by decide +kernel)) (by decide +kernel)
theorem md_X3_solve : jMd mX3_solve 5 := ⟨rfl, by decide +kernel, mc_X3_solve, wi_X3, ⟨by decide +kernel, by decide +kernel, by decide +kernel⟩, Nat.le_of_ble_eq_true rfl⟩
theorem im_X3_solve : Cond.instanceMethod yX3_solve ∈ jW := jW_mem (jtb 452 (by decide +kernel)) (by decide +kernel)
theorem se_X3_solve : Cond.selects yX3_solve.cls yX3_solve yX3_solve ∈ jW := jW_mem (jtb 453 (by decide +kernel)) (by decide +kernel)
theorem md_X3_seat : jMd mX3_seat 2 := ⟨rfl, by decide +kernel, mc_X3_seat, wi_X3, ⟨by decide +kernel, by decide +kernel, by decide +kernel⟩, Nat.le_of_ble_eq_true rfl⟩
theorem im_X3_seat : Cond.instanceMethod yX3_seat ∈ jW := jW_mem (jtb 459 (by decide +kernel)) (by decide +kernel)
theorem se_X3_seat : Cond.selects yX3_seat.cls yX3_seat yX3_seat ∈ jW := jW_mem (jtp (q := (⟨"MorningBite$Keeper", "seat", "(LMorningBite$Hill;I)V"⟩, 11)) 8 (by decide +kernel)) (by decide +kernel)
theorem md_X3_listAges : jMd mX3_listAges 1 := ⟨rfl, by decide +kernel, mc_X3_listAges, wi_X3, ⟨by decide +kernel, by decide +kernel, by decide +kernel⟩, Nat.le_of_ble_eq_true rfl⟩
theorem im_X3_listAges : Cond.instanceMethod yX3_listAges ∈ jW := jW_mem (jtb 464 (by decide +kernel)) (by decide +kernel)
theorem se_X3_listAges : Cond.selects yX3_listAges.cls yX3_listAges yX3_listAges ∈ jW := jW_mem (jtp (q := (⟨"MorningBite$Keeper", "listAges", "(LMorningBite$Hill;)V"⟩, 11)) 9 (by decide +kernel)) (by decide +kernel)
theorem md_X3_listNext : jMd mX3_listNext 3 := ⟨rfl, by decide +kernel, mc_X3_listNext, wi_X3, ⟨by decide +kernel, by decide +kernel, by decide +kernel⟩, Nat.le_of_ble_eq_true rfl⟩
theorem im_X3_listNext : Cond.instanceMethod yX3_listNext ∈ jW := jW_mem (jtb 468 (by decide +kernel)) (by decide +kernel)
theorem se_X3_listNext : Cond.selects yX3_listNext.cls yX3_listNext yX3_listNext ∈ jW := jW_mem (jtp (q := (⟨"MorningBite$Keeper", "listNext", "(LMorningBite$Hill;II)V"⟩, 11)) 10 (by decide +kernel)) (by decide +kernel)
theorem md_X3_lastsRest : jMd mX3_lastsRest 4 := ⟨rfl, by decide +kernel, mc_X3_lastsRest, wi_X3, ⟨by decide +kernel, by decide +kernel, by decide +kernel⟩, Nat.le_of_ble_eq_true rfl⟩
theorem im_X3_lastsRest : Cond.instanceMethod yX3_lastsRest ∈ jW := jW_mem (jtb 472 (by decide +kernel)) (by decide +kernel)
theorem se_X3_lastsRest : Cond.selects yX3_lastsRest.cls yX3_lastsRest yX3_lastsRest ∈ jW := jW_mem (jtp (q := (⟨"MorningBite$Keeper", "lastsRest", "(LMorningBite$Hill;III)Z"⟩, 11)) 11 (by decide +kernel)) (by decide +kernel)
theorem md_X3_findAge : jMd mX3_findAge 2 := ⟨rfl, by decide +kernel, mc_X3_findAge, wi_X3, ⟨by decide +kernel, by decide +kernel, by decide +kernel⟩, Nat.le_of_ble_eq_true rfl⟩
theorem im_X3_findAge : Cond.instanceMethod yX3_findAge ∈ jW := jW_mem (jtb 477 (by decide +kernel)) (by decide +kernel)
theorem se_X3_findAge : Cond.selects yX3_findAge.cls yX3_findAge yX3_findAge ∈ jW := jW_mem (jtp (q := (⟨"MorningBite$Keeper", "findAge", "(II)I"⟩, 11)) 12 (by decide +kernel)) (by decide +kernel)
theorem md_X3_countOf : jMd mX3_countOf 2 := ⟨rfl, by decide +kernel, mc_X3_countOf, wi_X3, ⟨by decide +kernel, by decide +kernel, by decide +kernel⟩, Nat.le_of_ble_eq_true rfl⟩
theorem im_X3_countOf : Cond.instanceMethod yX3_countOf ∈ jW := jW_mem (jtb 485 (by decide +kernel)) (by decide +kernel)
theorem se_X3_countOf : Cond.selects yX3_countOf.cls yX3_countOf yX3_countOf ∈ jW := jW_mem (jtp (q := (⟨"MorningBite$Keeper", "countOf", "(II)I"⟩, 11)) 14 (by decide +kernel)) (by decide +kernel)
theorem md_X3_countDay : jMd mX3_countDay 1 := ⟨rfl, by decide +kernel, mc_X3_countDay, wi_X3, ⟨by decide +kernel, by decide +kernel, by decide +kernel⟩, Nat.le_of_ble_eq_true rfl⟩
theorem im_X3_countDay : Cond.instanceMethod yX3_countDay ∈ jW := jW_mem (jtb 481 (by decide +kernel)) (by decide +kernel)
theorem se_X3_countDay : Cond.selects yX3_countDay.cls yX3_countDay yX3_countDay ∈ jW := jW_mem (jtp (q := (⟨"MorningBite$Keeper", "countDay", "(I)V"⟩, 11)) 13 (by decide +kernel)) (by decide +kernel)
theorem md_X3_bestMeals : jMd mX3_bestMeals 4 := ⟨rfl, by decide +kernel, mc_X3_bestMeals, wi_X3, ⟨by decide +kernel, by decide +kernel, by decide +kernel⟩, Nat.le_of_ble_eq_true rfl⟩
theorem im_X3_bestMeals : Cond.instanceMethod yX3_bestMeals ∈ jW := jW_mem (jtb 489 (by decide +kernel)) (by decide +kernel)
theorem se_X3_bestMeals : Cond.selects yX3_bestMeals.cls yX3_bestMeals yX3_bestMeals ∈ jW := jW_mem (jtp (q := (⟨"MorningBite$Keeper", "bestMeals", "(IIII)I"⟩, 11)) 15 (by decide +kernel)) (by decide +kernel)
theorem md_X3_next : jMd mX3_next 4 := ⟨rfl, by decide +kernel, mc_X3_next, wi_X3, ⟨by decide +kernel, by decide +kernel, by decide +kernel⟩, Nat.le_of_ble_eq_true rfl⟩
theorem im_X3_next : Cond.instanceMethod yX3_next ∈ jW := jW_mem (jtb 493 (by decide +kernel)) (by decide +kernel)
theorem se_X3_next : Cond.selects yX3_next.cls yX3_next yX3_next ∈ jW := jW_mem (jtp (q := (⟨"MorningBite$Keeper", "next", "(IIII)I"⟩, 11)) 16 (by decide +kernel)) (by decide +kernel)
theorem md_X3_fewestFrom : jMd mX3_fewestFrom 4 := ⟨rfl, by decide +kernel, mc_X3_fewestFrom, wi_X3, ⟨by decide +kernel, by decide +kernel, by decide +kernel⟩, Nat.le_of_ble_eq_true rfl⟩
theorem im_X3_fewestFrom : Cond.instanceMethod yX3_fewestFrom ∈ jW := jW_mem (jtb 497 (by decide +kernel)) (by decide +kernel)
theorem se_X3_fewestFrom : Cond.selects yX3_fewestFrom.cls yX3_fewestFrom yX3_fewestFrom ∈ jW := jW_mem (jtp (q := (⟨"MorningBite$Keeper", "fewestFrom", "(IIII)I"⟩, 11)) 17 (by decide +kernel)) (by decide +kernel)
theorem md_X3_eats : jMd mX3_eats 2 := ⟨rfl, by decide +kernel, mc_X3_eats, wi_X3, ⟨by decide +kernel, by decide +kernel, by decide +kernel⟩, Nat.le_of_ble_eq_true rfl⟩
theorem im_X3_eats : Cond.instanceMethod yX3_eats ∈ jW := jW_mem (jtb 504 (by decide +kernel)) (by decide +kernel)
theorem se_X3_eats : Cond.selects yX3_eats.cls yX3_eats yX3_eats ∈ jW := jW_mem (jtb 505 (by decide +kernel)) (by decide +kernel)
theorem md_X3_walk : jMd mX3_walk 0 := ⟨rfl, by decide +kernel, mc_X3_walk, wi_X3, ⟨by decide +kernel, by decide +kernel, by decide +kernel⟩, Nat.le_of_ble_eq_true rfl⟩
theorem im_X3_walk : Cond.instanceMethod yX3_walk ∈ jW := jW_mem (jtb 509 (by decide +kernel)) (by decide +kernel)
theorem se_X3_walk : Cond.selects yX3_walk.cls yX3_walk yX3_walk ∈ jW := jW_mem (jtp (q := (⟨"MorningBite$Keeper", "walk", "()V"⟩, 11)) 18 (by decide +kernel)) (by decide +kernel)
theorem md_X4_init : jMd mX4_init 0 := ⟨rfl, by decide +kernel, mc_X4_init, wi_X4, ⟨by decide +kernel, by decide +kernel, by decide +kernel⟩, Nat.le_of_ble_eq_true rfl⟩
theorem im_X4_init : Cond.instanceMethod yX4_init ∈ jW := jW_mem (jtb 72 (by decide +kernel)) (by decide +kernel)
theorem md_X4_add : jMd mX4_add 1 := ⟨rfl, by decide +kernel, mc_X4_add, wi_X4, ⟨by decide +kernel, by decide +kernel, by decide +kernel⟩, Nat.le_of_ble_eq_true rfl⟩
theorem im_X4_add : Cond.instanceMethod yX4_add ∈ jW := jW_mem (jtb 324 (by decide +kernel)) (by decide +kernel)
theorem se_X4_add : Cond.selects yX4_add.cls yX4_add yX4_add ∈ jW := jW_mem (jtb 325 (by decide +kernel)) (by decide +kernel)
theorem md_X4_read : jMd mX4_read 0 := ⟨rfl, by decide +kernel, mc_X4_read, wi_X4, ⟨by decide +kernel, by decide +kernel, by decide +kernel⟩, Nat.le_of_ble_eq_true rfl⟩
theorem im_X4_read : Cond.instanceMethod yX4_read ∈ jW := jW_mem (jtb 336 (by decide +kernel)) (by decide +kernel)
theorem se_X4_read : Cond.selects yX4_read.cls yX4_read yX4_read ∈ jW := jW_mem (jtb 337 (by decide +kernel)) (by decide +kernel)
theorem md_X4_isLetter : jMd mX4_isLetter 1 := ⟨rfl, by decide +kernel, mc_X4_isLetter, wi_X4, ⟨by decide +kernel, by decide +kernel, by decide +kernel⟩, Nat.le_of_ble_eq_true rfl⟩
theorem is_X4_isLetter : Cond.static yX4_isLetter ∈ jW := jW_mem (jtb 340 (by decide +kernel)) (by decide +kernel)
theorem md_X4_addAct : jMd mX4_addAct 3 := ⟨rfl, by decide +kernel, mc_X4_addAct, wi_X4, ⟨by decide +kernel, by decide +kernel, by decide +kernel⟩, Nat.le_of_ble_eq_true rfl⟩
theorem im_X4_addAct : Cond.instanceMethod yX4_addAct ∈ jW := jW_mem (jtb 344 (by decide +kernel)) (by decide +kernel)
theorem se_X4_addAct : Cond.selects yX4_addAct.cls yX4_addAct yX4_addAct ∈ jW := jW_mem (jtp (q := (⟨"MorningBite$Pad", "addAct", "(III)V"⟩, 6)) 0 (by decide +kernel)) (by decide +kernel)
theorem md_X5_init : jMd mX5_init 0 := ⟨rfl, by decide +kernel, mc_X5_init, wi_X5, ⟨by decide +kernel, by decide +kernel, by decide +kernel⟩, Nat.le_of_ble_eq_true rfl⟩
theorem im_X5_init : Cond.instanceMethod yX5_init ∈ jW := jW_mem (jtb 185 (by decide +kernel)) (by decide +kernel)
theorem md_X5_weigh : jMd mX5_weigh 2 := ⟨rfl, by decide +kernel, mc_X5_weigh, wi_X5, ⟨by decide +kernel, by decide +kernel, by decide +kernel⟩, Nat.le_of_ble_eq_true rfl⟩
theorem im_X5_weigh : Cond.instanceMethod yX5_weigh ∈ jW := jW_mem (jtb 516 (by decide +kernel)) (by decide +kernel)
theorem se_X5_weigh : Cond.selects yX5_weigh.cls yX5_weigh yX5_weigh ∈ jW := jW_mem (jtb 517 (by decide +kernel)) (by decide +kernel)
theorem md_X5_share : jMd mX5_share 4 := ⟨rfl, by decide +kernel, mc_X5_share, wi_X5, ⟨by decide +kernel, by decide +kernel, by decide +kernel⟩, Nat.le_of_ble_eq_true rfl⟩
theorem im_X5_share : Cond.instanceMethod yX5_share ∈ jW := jW_mem (jtb 521 (by decide +kernel)) (by decide +kernel)
theorem se_X5_share : Cond.selects yX5_share.cls yX5_share yX5_share ∈ jW := jW_mem (jtp (q := (⟨"MorningBite$Shares", "share", "(LMorningBite$Hill;III)V"⟩, 3)) 19 (by decide +kernel)) (by decide +kernel)
theorem md_X5_addShare : jMd mX5_addShare 2 := ⟨rfl, by decide +kernel, mc_X5_addShare, wi_X5, ⟨by decide +kernel, by decide +kernel, by decide +kernel⟩, Nat.le_of_ble_eq_true rfl⟩
theorem im_X5_addShare : Cond.instanceMethod yX5_addShare ∈ jW := jW_mem (jtb 525 (by decide +kernel)) (by decide +kernel)
theorem se_X5_addShare : Cond.selects yX5_addShare.cls yX5_addShare yX5_addShare ∈ jW := jW_mem (jtp (q := (⟨"MorningBite$Shares", "addShare", "(II)V"⟩, 3)) 20 (by decide +kernel)) (by decide +kernel)
theorem md_X5_envies : jMd mX5_envies 2 := ⟨rfl, by decide +kernel, mc_X5_envies, wi_X5, ⟨by decide +kernel, by decide +kernel, by decide +kernel⟩, Nat.le_of_ble_eq_true rfl⟩
theorem im_X5_envies : Cond.instanceMethod yX5_envies ∈ jW := jW_mem (jtb 531 (by decide +kernel)) (by decide +kernel)
theorem se_X5_envies : Cond.selects yX5_envies.cls yX5_envies yX5_envies ∈ jW := jW_mem (jtp (q := (⟨"MorningBite$Shares", "envies", "(LMorningBite$Hill;I)Z"⟩, 3)) 21 (by decide +kernel)) (by decide +kernel)
theorem md_X5_wronged : jMd mX5_wronged 3 := ⟨rfl, by decide +kernel, mc_X5_wronged, wi_X5, ⟨by decide +kernel, by decide +kernel, by decide +kernel⟩, Nat.le_of_ble_eq_true rfl⟩
theorem im_X5_wronged : Cond.instanceMethod yX5_wronged ∈ jW := jW_mem (jtb 535 (by decide +kernel)) (by decide +kernel)
theorem se_X5_wronged : Cond.selects yX5_wronged.cls yX5_wronged yX5_wronged ∈ jW := jW_mem (jtp (q := (⟨"MorningBite$Shares", "wronged", "(LMorningBite$Hill;II)Z"⟩, 3)) 22 (by decide +kernel)) (by decide +kernel)
theorem md_X6_init : jMd mX6_init 0 := ⟨rfl, by decide +kernel, mc_X6_init, wi_X6, ⟨by decide +kernel, by decide +kernel, by decide +kernel⟩, Nat.le_of_ble_eq_true rfl⟩
theorem im_X6_init : Cond.instanceMethod yX6_init ∈ jW := jW_mem (jtb 203 (by decide +kernel)) (by decide +kernel)
theorem md_X6_add : jMd mX6_add 2 := ⟨rfl, by decide +kernel, mc_X6_add, wi_X6, ⟨by decide +kernel, by decide +kernel, by decide +kernel⟩, Nat.le_of_ble_eq_true rfl⟩
theorem im_X6_add : Cond.instanceMethod yX6_add ∈ jW := jW_mem (jtb 548 (by decide +kernel)) (by decide +kernel)
theorem se_X6_add : Cond.selects yX6_add.cls yX6_add yX6_add ∈ jW := jW_mem (jtb 549 (by decide +kernel)) (by decide +kernel)
theorem md_X6_takeOver : jMd mX6_takeOver 1 := ⟨rfl, by decide +kernel, mc_X6_takeOver, wi_X6, ⟨by decide +kernel, by decide +kernel, by decide +kernel⟩, Nat.le_of_ble_eq_true rfl⟩
theorem im_X6_takeOver : Cond.instanceMethod yX6_takeOver ∈ jW := jW_mem (jtb 640 (by decide +kernel)) (by decide +kernel)
theorem se_X6_takeOver : Cond.selects yX6_takeOver.cls yX6_takeOver yX6_takeOver ∈ jW := jW_mem (jtb 641 (by decide +kernel)) (by decide +kernel)
theorem md_X6_givers : jMd mX6_givers 1 := ⟨rfl, by decide +kernel, mc_X6_givers, wi_X6, ⟨by decide +kernel, by decide +kernel, by decide +kernel⟩, Nat.le_of_ble_eq_true rfl⟩
theorem im_X6_givers : Cond.instanceMethod yX6_givers ∈ jW := jW_mem (jtb 560 (by decide +kernel)) (by decide +kernel)
theorem se_X6_givers : Cond.selects yX6_givers.cls yX6_givers yX6_givers ∈ jW := jW_mem (jtb 561 (by decide +kernel)) (by decide +kernel)
theorem md_X6_fits : jMd mX6_fits 2 := ⟨rfl, by decide +kernel, mc_X6_fits, wi_X6, ⟨by decide +kernel, by decide +kernel, by decide +kernel⟩, Nat.le_of_ble_eq_true rfl⟩
theorem im_X6_fits : Cond.instanceMethod yX6_fits ∈ jW := jW_mem (jtb 566 (by decide +kernel)) (by decide +kernel)
theorem se_X6_fits : Cond.selects yX6_fits.cls yX6_fits yX6_fits ∈ jW := jW_mem (jtp (q := (⟨"MorningBite$Sights", "fits", "(LMorningBite$Hill;I)Z"⟩, 3)) 23 (by decide +kernel)) (by decide +kernel)
theorem md_X6_leftAtMost : jMd mX6_leftAtMost 3 := ⟨rfl, by decide +kernel, mc_X6_leftAtMost, wi_X6, ⟨by decide +kernel, by decide +kernel, by decide +kernel⟩, Nat.le_of_ble_eq_true rfl⟩
theorem is_X6_leftAtMost : Cond.static yX6_leftAtMost ∈ jW := jW_mem (jtb 577 (by decide +kernel)) (by decide +kernel)
theorem md_X6_looksBehind : jMd mX6_looksBehind 3 := ⟨rfl, by decide +kernel, mc_X6_looksBehind, wi_X6, ⟨by decide +kernel, by decide +kernel, by decide +kernel⟩, Nat.le_of_ble_eq_true rfl⟩
theorem is_X6_looksBehind : Cond.static yX6_looksBehind ∈ jW := jW_mem (jtb 569 (by decide +kernel)) (by decide +kernel)
theorem md_X7_weigh : jMd mX7_weigh 5 := ⟨rfl, by decide +kernel, mc_X7_weigh, wi_X7, ⟨by decide +kernel, by decide +kernel, by decide +kernel⟩, Nat.le_of_ble_eq_true rfl⟩
theorem is_X7_weigh : Cond.static yX7_weigh ∈ jW := jW_mem (jtb 592 (by decide +kernel)) (by decide +kernel)
theorem md_X7_looksBehind : jMd mX7_looksBehind 4 := ⟨rfl, by decide +kernel, mc_X7_looksBehind, wi_X7, ⟨by decide +kernel, by decide +kernel, by decide +kernel⟩, Nat.le_of_ble_eq_true rfl⟩
theorem is_X7_looksBehind : Cond.static yX7_looksBehind ∈ jW := jW_mem (jtb 595 (by decide +kernel)) (by decide +kernel)
theorem md_X7_power : jMd mX7_power 2 := ⟨rfl, by decide +kernel, mc_X7_power, wi_X7, ⟨by decide +kernel, by decide +kernel, by decide +kernel⟩, Nat.le_of_ble_eq_true rfl⟩
theorem is_X7_power : Cond.static yX7_power ∈ jW := jW_mem (jtb 601 (by decide +kernel)) (by decide +kernel)
theorem md_X7_commonDivisor : jMd mX7_commonDivisor 2 := ⟨rfl, by decide +kernel, mc_X7_commonDivisor, wi_X7, ⟨by decide +kernel, by decide +kernel, by decide +kernel⟩, Nat.le_of_ble_eq_true rfl⟩
theorem is_X7_commonDivisor : Cond.static yX7_commonDivisor ∈ jW := jW_mem (jtb 606 (by decide +kernel)) (by decide +kernel)
theorem md_X8_init : jMd mX8_init 0 := ⟨rfl, by decide +kernel, mc_X8_init, wi_X8, ⟨by decide +kernel, by decide +kernel, by decide +kernel⟩, Nat.le_of_ble_eq_true rfl⟩
theorem im_X8_init : Cond.instanceMethod yX8_init ∈ jW := jW_mem (jtb 220 (by decide +kernel)) (by decide +kernel)
theorem md_X8_live : jMd mX8_live 3 := ⟨rfl, by decide +kernel, mc_X8_live, wi_X8, ⟨by decide +kernel, by decide +kernel, by decide +kernel⟩, Nat.le_of_ble_eq_true rfl⟩
theorem im_X8_live : Cond.instanceMethod yX8_live ∈ jW := jW_mem (jtb 616 (by decide +kernel)) (by decide +kernel)
theorem se_X8_live : Cond.selects yX8_live.cls yX8_live yX8_live ∈ jW := jW_mem (jtb 617 (by decide +kernel)) (by decide +kernel)
theorem md_X8_kindOf : jMd mX8_kindOf 1 := ⟨rfl, by decide +kernel, mc_X8_kindOf, wi_X8, ⟨by decide +kernel, by decide +kernel, by decide +kernel⟩, Nat.le_of_ble_eq_true rfl⟩
theorem is_X8_kindOf : Cond.static yX8_kindOf ∈ jW := jW_mem (jtb 622 (by decide +kernel)) (by decide +kernel)
theorem md_X9_init : jMd mX9_init 0 := ⟨rfl, by decide +kernel, mc_X9_init, wi_X9, ⟨by decide +kernel, by decide +kernel, by decide +kernel⟩, Nat.le_of_ble_eq_true rfl⟩
theorem im_X9_init : Cond.instanceMethod yX9_init ∈ jW := jW_mem (jtb 18 (by decide +kernel)) (by decide +kernel)
theorem md_X9_one : jMd mX9_one 4 := ⟨rfl, by decide +kernel, mc_X9_one, wi_X9, ⟨by decide +kernel, by decide +kernel, by decide +kernel⟩, Nat.le_of_ble_eq_true rfl⟩
theorem im_X9_one : Cond.instanceMethod yX9_one ∈ jW := jW_mem (jtb 282 (by decide +kernel)) (by decide +kernel)
theorem se_X9_one : Cond.selects yX9_one.cls yX9_one yX9_one ∈ jW := jW_mem (jtb 283 (by decide +kernel)) (by decide +kernel)
theorem md_X9_leave : jMd mX9_leave 1 := ⟨rfl, by decide +kernel, mc_X9_leave, wi_X9, ⟨by decide +kernel, by decide +kernel, by decide +kernel⟩, Nat.le_of_ble_eq_true rfl⟩
theorem im_X9_leave : Cond.instanceMethod yX9_leave ∈ jW := jW_mem (jtb 303 (by decide +kernel)) (by decide +kernel)
theorem se_X9_leave : Cond.selects yX9_leave.cls yX9_leave yX9_leave ∈ jW := jW_mem (jtb 304 (by decide +kernel)) (by decide +kernel)
theorem md_X9_set : jMd mX9_set 2 := ⟨rfl, by decide +kernel, mc_X9_set, wi_X9, ⟨by decide +kernel, by decide +kernel, by decide +kernel⟩, Nat.le_of_ble_eq_true rfl⟩
theorem im_X9_set : Cond.instanceMethod yX9_set ∈ jW := jW_mem (jtb 316 (by decide +kernel)) (by decide +kernel)
theorem se_X9_set : Cond.selects yX9_set.cls yX9_set yX9_set ∈ jW := jW_mem (jtb 317 (by decide +kernel)) (by decide +kernel)
theorem md_X9_say : jMd mX9_say 1 := ⟨rfl, by decide +kernel, mc_X9_say, wi_X9, ⟨by decide +kernel, by decide +kernel, by decide +kernel⟩, Nat.le_of_ble_eq_true rfl⟩
theorem im_X9_say : Cond.instanceMethod yX9_say ∈ jW := jW_mem (jtb 320 (by decide +kernel)) (by decide +kernel)
theorem se_X9_say : Cond.selects yX9_say.cls yX9_say yX9_say ∈ jW := jW_mem (jtb 321 (by decide +kernel)) (by decide +kernel)
theorem md_X9_wipe : jMd mX9_wipe 0 := ⟨rfl, by decide +kernel, mc_X9_wipe, wi_X9, ⟨by decide +kernel, by decide +kernel, by decide +kernel⟩, Nat.le_of_ble_eq_true rfl⟩
theorem im_X9_wipe : Cond.instanceMethod yX9_wipe ∈ jW := jW_mem (jtb 328 (by decide +kernel)) (by decide +kernel)
theorem se_X9_wipe : Cond.selects yX9_wipe.cls yX9_wipe yX9_wipe ∈ jW := jW_mem (jtb 329 (by decide +kernel)) (by decide +kernel)
theorem md_X9_fault : jMd mX9_fault 0 := ⟨rfl, by decide +kernel, mc_X9_fault, wi_X9, ⟨by decide +kernel, by decide +kernel, by decide +kernel⟩, Nat.le_of_ble_eq_true rfl⟩
theorem im_X9_fault : Cond.instanceMethod yX9_fault ∈ jW := jW_mem (jtb 332 (by decide +kernel)) (by decide +kernel)
theorem se_X9_fault : Cond.selects yX9_fault.cls yX9_fault yX9_fault ∈ jW := jW_mem (jtb 333 (by decide +kernel)) (by decide +kernel)
theorem md_X9_judge : jMd mX9_judge 1 := ⟨rfl, by decide +kernel, mc_X9_judge, wi_X9, ⟨by decide +kernel, by decide +kernel, by decide +kernel⟩, Nat.le_of_ble_eq_true rfl⟩
theorem im_X9_judge : Cond.instanceMethod yX9_judge ∈ jW := jW_mem (jtb 347 (by decide +kernel)) (by decide +kernel)
theorem se_X9_judge : Cond.selects yX9_judge.cls yX9_judge yX9_judge ∈ jW := jW_mem (jtb 348 (by decide +kernel)) (by decide +kernel)
theorem md_X9_behind : jMd mX9_behind 2 := ⟨rfl, by decide +kernel, mc_X9_behind, wi_X9, ⟨by decide +kernel, by decide +kernel, by decide +kernel⟩, Nat.le_of_ble_eq_true rfl⟩
theorem im_X9_behind : Cond.instanceMethod yX9_behind ∈ jW := jW_mem (jtb 418 (by decide +kernel)) (by decide +kernel)
theorem se_X9_behind : Cond.selects yX9_behind.cls yX9_behind yX9_behind ∈ jW := jW_mem (jtb 419 (by decide +kernel)) (by decide +kernel)
theorem md_X9_basket : jMd mX9_basket 0 := ⟨rfl, by decide +kernel, mc_X9_basket, wi_X9, ⟨by decide +kernel, by decide +kernel, by decide +kernel⟩, Nat.le_of_ble_eq_true rfl⟩
theorem im_X9_basket : Cond.instanceMethod yX9_basket ∈ jW := jW_mem (jtb 422 (by decide +kernel)) (by decide +kernel)
theorem se_X9_basket : Cond.selects yX9_basket.cls yX9_basket yX9_basket ∈ jW := jW_mem (jtb 423 (by decide +kernel)) (by decide +kernel)
theorem md_X9_passed : jMd mX9_passed 1 := ⟨rfl, by decide +kernel, mc_X9_passed, wi_X9, ⟨by decide +kernel, by decide +kernel, by decide +kernel⟩, Nat.le_of_ble_eq_true rfl⟩
theorem im_X9_passed : Cond.instanceMethod yX9_passed ∈ jW := jW_mem (jtb 426 (by decide +kernel)) (by decide +kernel)
theorem se_X9_passed : Cond.selects yX9_passed.cls yX9_passed yX9_passed ∈ jW := jW_mem (jtb 427 (by decide +kernel)) (by decide +kernel)
theorem md_X9_oldest : jMd mX9_oldest 1 := ⟨rfl, by decide +kernel, mc_X9_oldest, wi_X9, ⟨by decide +kernel, by decide +kernel, by decide +kernel⟩, Nat.le_of_ble_eq_true rfl⟩
theorem im_X9_oldest : Cond.instanceMethod yX9_oldest ∈ jW := jW_mem (jtb 430 (by decide +kernel)) (by decide +kernel)
theorem se_X9_oldest : Cond.selects yX9_oldest.cls yX9_oldest yX9_oldest ∈ jW := jW_mem (jtb 431 (by decide +kernel)) (by decide +kernel)
theorem md_X9_done : jMd mX9_done 0 := ⟨rfl, by decide +kernel, mc_X9_done, wi_X9, ⟨by decide +kernel, by decide +kernel, by decide +kernel⟩, Nat.le_of_ble_eq_true rfl⟩
theorem im_X9_done : Cond.instanceMethod yX9_done ∈ jW := jW_mem (jtb 434 (by decide +kernel)) (by decide +kernel)
theorem se_X9_done : Cond.selects yX9_done.cls yX9_done yX9_done ∈ jW := jW_mem (jtb 435 (by decide +kernel)) (by decide +kernel)
theorem md_X9_lasts : jMd mX9_lasts 2 := ⟨rfl, by decide +kernel, mc_X9_lasts, wi_X9, ⟨by decide +kernel, by decide +kernel, by decide +kernel⟩, Nat.le_of_ble_eq_true rfl⟩
theorem im_X9_lasts : Cond.instanceMethod yX9_lasts ∈ jW := jW_mem (jtb 439 (by decide +kernel)) (by decide +kernel)
theorem se_X9_lasts : Cond.selects yX9_lasts.cls yX9_lasts yX9_lasts ∈ jW := jW_mem (jtb 440 (by decide +kernel)) (by decide +kernel)
theorem md_X9_keeps : jMd mX9_keeps 4 := ⟨rfl, by decide +kernel, mc_X9_keeps, wi_X9, ⟨by decide +kernel, by decide +kernel, by decide +kernel⟩, Nat.le_of_ble_eq_true rfl⟩
theorem im_X9_keeps : Cond.instanceMethod yX9_keeps ∈ jW := jW_mem (jtb 443 (by decide +kernel)) (by decide +kernel)
theorem se_X9_keeps : Cond.selects yX9_keeps.cls yX9_keeps yX9_keeps ∈ jW := jW_mem (jtb 444 (by decide +kernel)) (by decide +kernel)
theorem md_X9_plan : jMd mX9_plan 6 := ⟨rfl, by decide +kernel, mc_X9_plan, wi_X9, ⟨by decide +kernel, by decide +kernel, by decide +kernel⟩, Nat.le_of_ble_eq_true rfl⟩
theorem im_X9_plan : Cond.instanceMethod yX9_plan ∈ jW := jW_mem (jtb 500 (by decide +kernel)) (by decide +kernel)
theorem se_X9_plan : Cond.selects yX9_plan.cls yX9_plan yX9_plan ∈ jW := jW_mem (jtb 501 (by decide +kernel)) (by decide +kernel)
theorem md_X9_envy : jMd mX9_envy 2 := ⟨rfl, by decide +kernel, mc_X9_envy, wi_X9, ⟨by decide +kernel, by decide +kernel, by decide +kernel⟩, Nat.le_of_ble_eq_true rfl⟩
theorem im_X9_envy : Cond.instanceMethod yX9_envy ∈ jW := jW_mem (jtb 512 (by decide +kernel)) (by decide +kernel)
theorem se_X9_envy : Cond.selects yX9_envy.cls yX9_envy yX9_envy ∈ jW := jW_mem (jtb 513 (by decide +kernel)) (by decide +kernel)
theorem md_X9_refuses : jMd mX9_refuses 1 := ⟨rfl, by decide +kernel, mc_X9_refuses, wi_X9, ⟨by decide +kernel, by decide +kernel, by decide +kernel⟩, Nat.le_of_ble_eq_true rfl⟩
theorem im_X9_refuses : Cond.instanceMethod yX9_refuses ∈ jW := jW_mem (jtb 538 (by decide +kernel)) (by decide +kernel)
theorem se_X9_refuses : Cond.selects yX9_refuses.cls yX9_refuses yX9_refuses ∈ jW := jW_mem (jtb 539 (by decide +kernel)) (by decide +kernel)
theorem md_X9_seen : jMd mX9_seen 2 := ⟨rfl, by decide +kernel, mc_X9_seen, wi_X9, ⟨by decide +kernel, by decide +kernel, by decide +kernel⟩, Nat.le_of_ble_eq_true rfl⟩
theorem im_X9_seen : Cond.instanceMethod yX9_seen ∈ jW := jW_mem (jtb 544 (by decide +kernel)) (by decide +kernel)
theorem se_X9_seen : Cond.selects yX9_seen.cls yX9_seen yX9_seen ∈ jW := jW_mem (jtb 545 (by decide +kernel)) (by decide +kernel)
theorem md_X9_forget : jMd mX9_forget 0 := ⟨rfl, by decide +kernel, mc_X9_forget, wi_X9, ⟨by decide +kernel, by decide +kernel, by decide +kernel⟩, Nat.le_of_ble_eq_true rfl⟩
theorem im_X9_forget : Cond.instanceMethod yX9_forget ∈ jW := jW_mem (jtb 552 (by decide +kernel)) (by decide +kernel)
theorem se_X9_forget : Cond.selects yX9_forget.cls yX9_forget yX9_forget ∈ jW := jW_mem (jtb 553 (by decide +kernel)) (by decide +kernel)
theorem md_X9_gave : jMd mX9_gave 1 := ⟨rfl, by decide +kernel, mc_X9_gave, wi_X9, ⟨by decide +kernel, by decide +kernel, by decide +kernel⟩, Nat.le_of_ble_eq_true rfl⟩
theorem im_X9_gave : Cond.instanceMethod yX9_gave ∈ jW := jW_mem (jtb 556 (by decide +kernel)) (by decide +kernel)
theorem se_X9_gave : Cond.selects yX9_gave.cls yX9_gave yX9_gave ∈ jW := jW_mem (jtb 557 (by decide +kernel)) (by decide +kernel)
theorem md_X9_ask : jMd mX9_ask 1 := ⟨rfl, by decide +kernel, mc_X9_ask, wi_X9, ⟨by decide +kernel, by decide +kernel, by decide +kernel⟩, Nat.le_of_ble_eq_true rfl⟩
theorem im_X9_ask : Cond.instanceMethod yX9_ask ∈ jW := jW_mem (jtb 573 (by decide +kernel)) (by decide +kernel)
theorem se_X9_ask : Cond.selects yX9_ask.cls yX9_ask yX9_ask ∈ jW := jW_mem (jtb 574 (by decide +kernel)) (by decide +kernel)
theorem md_X9_thieves : jMd mX9_thieves 3 := ⟨rfl, by decide +kernel, mc_X9_thieves, wi_X9, ⟨by decide +kernel, by decide +kernel, by decide +kernel⟩, Nat.le_of_ble_eq_true rfl⟩
theorem im_X9_thieves : Cond.instanceMethod yX9_thieves ∈ jW := jW_mem (jtb 582 (by decide +kernel)) (by decide +kernel)
theorem se_X9_thieves : Cond.selects yX9_thieves.cls yX9_thieves yX9_thieves ∈ jW := jW_mem (jtb 583 (by decide +kernel)) (by decide +kernel)
theorem md_X9_worms : jMd mX9_worms 5 := ⟨rfl, by decide +kernel, mc_X9_worms, wi_X9, ⟨by decide +kernel, by decide +kernel, by decide +kernel⟩, Nat.le_of_ble_eq_true rfl⟩
theorem im_X9_worms : Cond.instanceMethod yX9_worms ∈ jW := jW_mem (jtb 586 (by decide +kernel)) (by decide +kernel)
theorem se_X9_worms : Cond.selects yX9_worms.cls yX9_worms yX9_worms ∈ jW := jW_mem (jtb 587 (by decide +kernel)) (by decide +kernel)
theorem md_X9_year : jMd mX9_year 3 := ⟨rfl, by decide +kernel, mc_X9_year, wi_X9, ⟨by decide +kernel, by decide +kernel, by decide +kernel⟩, Nat.le_of_ble_eq_true rfl⟩
theorem im_X9_year : Cond.instanceMethod yX9_year ∈ jW := jW_mem (jtb 612 (by decide +kernel)) (by decide +kernel)
theorem se_X9_year : Cond.selects yX9_year.cls yX9_year yX9_year ∈ jW := jW_mem (jtb 613 (by decide +kernel)) (by decide +kernel)
theorem md_X9_image : jMd mX9_image 1 := ⟨rfl, by decide +kernel, mc_X9_image, wi_X9, ⟨by decide +kernel, by decide +kernel, by decide +kernel⟩, Nat.le_of_ble_eq_true rfl⟩
theorem im_X9_image : Cond.instanceMethod yX9_image ∈ jW := jW_mem (jtb 631 (by decide +kernel)) (by decide +kernel)
theorem se_X9_image : Cond.selects yX9_image.cls yX9_image yX9_image ∈ jW := jW_mem (jtb 632 (by decide +kernel)) (by decide +kernel)
theorem md_X9_restore : jMd mX9_restore 1 := ⟨rfl, by decide +kernel, mc_X9_restore, wi_X9, ⟨by decide +kernel, by decide +kernel, by decide +kernel⟩, Nat.le_of_ble_eq_true rfl⟩
theorem im_X9_restore : Cond.instanceMethod yX9_restore ∈ jW := jW_mem (jtb 645 (by decide +kernel)) (by decide +kernel)
theorem se_X9_restore : Cond.selects yX9_restore.cls yX9_restore yX9_restore ∈ jW := jW_mem (jtb 646 (by decide +kernel)) (by decide +kernel)
theorem md_X9_told : jMd mX9_told 1 := ⟨rfl, by decide +kernel, mc_X9_told, wi_X9, ⟨by decide +kernel, by decide +kernel, by decide +kernel⟩, Nat.le_of_ble_eq_true rfl⟩
theorem im_X9_told : Cond.instanceMethod yX9_told ∈ jW := jW_mem (jtb 653 (by decide +kernel)) (by decide +kernel)
theorem se_X9_told : Cond.selects yX9_told.cls yX9_told yX9_told ∈ jW := jW_mem (jtb 654 (by decide +kernel)) (by decide +kernel)
theorem md_X9_toldOf : jMd mX9_toldOf 2 := ⟨rfl, by decide +kernel, mc_X9_toldOf, wi_X9, ⟨by decide +kernel, by decide +kernel, by decide +kernel⟩, Nat.le_of_ble_eq_true rfl⟩
theorem im_X9_toldOf : Cond.instanceMethod yX9_toldOf ∈ jW := jW_mem (jtb 658 (by decide +kernel)) (by decide +kernel)
theorem se_X9_toldOf : Cond.selects yX9_toldOf.cls yX9_toldOf yX9_toldOf ∈ jW := jW_mem (jtp (q := (⟨"MorningBite", "toldOf", "(II)I"⟩, 8)) 24 (by decide +kernel)) (by decide +kernel)
theorem md_X9_liveDays : jMd mX9_liveDays 0 := ⟨rfl, by decide +kernel, mc_X9_liveDays, wi_X9, ⟨by decide +kernel, by decide +kernel, by decide +kernel⟩, Nat.le_of_ble_eq_true rfl⟩
theorem im_X9_liveDays : Cond.instanceMethod yX9_liveDays ∈ jW := jW_mem (jtb 352 (by decide +kernel)) (by decide +kernel)
theorem se_X9_liveDays : Cond.selects yX9_liveDays.cls yX9_liveDays yX9_liveDays ∈ jW := jW_mem (jtp (q := (⟨"MorningBite", "liveDays", "()I"⟩, 8)) 1 (by decide +kernel)) (by decide +kernel)
theorem md_X9_refuseKeeping : jMd mX9_refuseKeeping 4 := ⟨rfl, by decide +kernel, mc_X9_refuseKeeping, wi_X9, ⟨by decide +kernel, by decide +kernel, by decide +kernel⟩, Nat.le_of_ble_eq_true rfl⟩
theorem im_X9_refuseKeeping : Cond.instanceMethod yX9_refuseKeeping ∈ jW := jW_mem (jtb 448 (by decide +kernel)) (by decide +kernel)
theorem se_X9_refuseKeeping : Cond.selects yX9_refuseKeeping.cls yX9_refuseKeeping yX9_refuseKeeping ∈ jW := jW_mem (jtp (q := (⟨"MorningBite", "refuseKeeping", "(IIII)I"⟩, 8)) 7 (by decide +kernel)) (by decide +kernel)
theorem md_X9_within : jMd mX9_within 3 := ⟨rfl, by decide +kernel, mc_X9_within, wi_X9, ⟨by decide +kernel, by decide +kernel, by decide +kernel⟩, Nat.le_of_ble_eq_true rfl⟩
theorem is_X9_within : Cond.static yX9_within ∈ jW := jW_mem (jtb 286 (by decide +kernel)) (by decide +kernel)
theorem md_X10_init : jMd mX10_init 0 := ⟨rfl, by decide +kernel, mc_X10_init, wi_X10, ⟨by decide +kernel, by decide +kernel, by decide +kernel⟩, Nat.le_of_ble_eq_true rfl⟩
theorem im_X10_init : Cond.instanceMethod yX10_init ∈ jW := jW_mem (jtb 663 (by decide +kernel)) (by decide +kernel)
theorem md_X10_in : jMd mX10_in 3 := ⟨rfl, by decide +kernel, mc_X10_in, wi_X10, ⟨by decide +kernel, by decide +kernel, by decide +kernel⟩, Nat.le_of_ble_eq_true rfl⟩
theorem is_X10_in : Cond.static yX10_in ∈ jW := jW_mem (jtb 790 (by decide +kernel)) (by decide +kernel)
theorem md_X10_ones : jMd mX10_ones 1 := ⟨rfl, by decide +kernel, mc_X10_ones, wi_X10, ⟨by decide +kernel, by decide +kernel, by decide +kernel⟩, Nat.le_of_ble_eq_true rfl⟩
theorem is_X10_ones : Cond.static yX10_ones ∈ jW := jW_mem (jtb 795 (by decide +kernel)) (by decide +kernel)
theorem md_X10_isOne : jMd mX10_isOne 1 := ⟨rfl, by decide +kernel, mc_X10_isOne, wi_X10, ⟨by decide +kernel, by decide +kernel, by decide +kernel⟩, Nat.le_of_ble_eq_true rfl⟩
theorem im_X10_isOne : Cond.instanceMethod yX10_isOne ∈ jW := jW_mem (jtb 803 (by decide +kernel)) (by decide +kernel)
theorem se_X10_isOne : Cond.selects yX10_isOne.cls yX10_isOne yX10_isOne ∈ jW := jW_mem (jtp (q := (⟨"MorningBiteModel", "isOne", "(I)Z"⟩, 38)) 25 (by decide +kernel)) (by decide +kernel)
theorem md_X10_one : jMd mX10_one 4 := ⟨rfl, by decide +kernel, mc_X10_one, wi_X10, ⟨by decide +kernel, by decide +kernel, by decide +kernel⟩, Nat.le_of_ble_eq_true rfl⟩
theorem im_X10_one : Cond.instanceMethod yX10_one ∈ jW := jW_mem (jtb 785 (by decide +kernel)) (by decide +kernel)
theorem se_X10_one : Cond.selects yX10_one.cls yX10_one yX10_one ∈ jW := jW_mem (jtb 786 (by decide +kernel)) (by decide +kernel)
theorem md_X10_leave : jMd mX10_leave 1 := ⟨rfl, by decide +kernel, mc_X10_leave, wi_X10, ⟨by decide +kernel, by decide +kernel, by decide +kernel⟩, Nat.le_of_ble_eq_true rfl⟩
theorem im_X10_leave : Cond.instanceMethod yX10_leave ∈ jW := jW_mem (jtb 798 (by decide +kernel)) (by decide +kernel)
theorem se_X10_leave : Cond.selects yX10_leave.cls yX10_leave yX10_leave ∈ jW := jW_mem (jtb 799 (by decide +kernel)) (by decide +kernel)
theorem md_X10_set : jMd mX10_set 2 := ⟨rfl, by decide +kernel, mc_X10_set, wi_X10, ⟨by decide +kernel, by decide +kernel, by decide +kernel⟩, Nat.le_of_ble_eq_true rfl⟩
theorem im_X10_set : Cond.instanceMethod yX10_set ∈ jW := jW_mem (jtb 806 (by decide +kernel)) (by decide +kernel)
theorem se_X10_set : Cond.selects yX10_set.cls yX10_set yX10_set ∈ jW := jW_mem (jtb 807 (by decide +kernel)) (by decide +kernel)
theorem md_X10_say : jMd mX10_say 1 := ⟨rfl, by decide +kernel, mc_X10_say, wi_X10, ⟨by decide +kernel, by decide +kernel, by decide +kernel⟩, Nat.le_of_ble_eq_true rfl⟩
theorem im_X10_say : Cond.instanceMethod yX10_say ∈ jW := jW_mem (jtb 812 (by decide +kernel)) (by decide +kernel)
theorem se_X10_say : Cond.selects yX10_say.cls yX10_say yX10_say ∈ jW := jW_mem (jtb 813 (by decide +kernel)) (by decide +kernel)
theorem md_X10_wipe : jMd mX10_wipe 0 := ⟨rfl, by decide +kernel, mc_X10_wipe, wi_X10, ⟨by decide +kernel, by decide +kernel, by decide +kernel⟩, Nat.le_of_ble_eq_true rfl⟩
theorem im_X10_wipe : Cond.instanceMethod yX10_wipe ∈ jW := jW_mem (jtb 818 (by decide +kernel)) (by decide +kernel)
theorem se_X10_wipe : Cond.selects yX10_wipe.cls yX10_wipe yX10_wipe ∈ jW := jW_mem (jtb 819 (by decide +kernel)) (by decide +kernel)
theorem md_X10_isLetter : jMd mX10_isLetter 1 := ⟨rfl, by decide +kernel, mc_X10_isLetter, wi_X10, ⟨by decide +kernel, by decide +kernel, by decide +kernel⟩, Nat.le_of_ble_eq_true rfl⟩
theorem is_X10_isLetter : Cond.static yX10_isLetter ∈ jW := jW_mem (jtb 830 (by decide +kernel)) (by decide +kernel)
theorem md_X10_close : jMd mX10_close 2 := ⟨rfl, by decide +kernel, mc_X10_close, wi_X10, ⟨by decide +kernel, by decide +kernel, by decide +kernel⟩, Nat.le_of_ble_eq_true rfl⟩
theorem im_X10_close : Cond.instanceMethod yX10_close ∈ jW := jW_mem (jtb 836 (by decide +kernel)) (by decide +kernel)
theorem se_X10_close : Cond.selects yX10_close.cls yX10_close yX10_close ∈ jW := jW_mem (jtp (q := (⟨"MorningBiteModel", "close", "(II)I"⟩, 38)) 27 (by decide +kernel)) (by decide +kernel)
theorem md_X10_readOn : jMd mX10_readOn 2 := ⟨rfl, by decide +kernel, mc_X10_readOn, wi_X10, ⟨by decide +kernel, by decide +kernel, by decide +kernel⟩, Nat.le_of_ble_eq_true rfl⟩
theorem im_X10_readOn : Cond.instanceMethod yX10_readOn ∈ jW := jW_mem (jtb 827 (by decide +kernel)) (by decide +kernel)
theorem se_X10_readOn : Cond.selects yX10_readOn.cls yX10_readOn yX10_readOn ∈ jW := jW_mem (jtp (q := (⟨"MorningBiteModel", "readOn", "(II)I"⟩, 38)) 26 (by decide +kernel)) (by decide +kernel)
theorem md_X10_fault : jMd mX10_fault 0 := ⟨rfl, by decide +kernel, mc_X10_fault, wi_X10, ⟨by decide +kernel, by decide +kernel, by decide +kernel⟩, Nat.le_of_ble_eq_true rfl⟩
theorem im_X10_fault : Cond.instanceMethod yX10_fault ∈ jW := jW_mem (jtb 822 (by decide +kernel)) (by decide +kernel)
theorem se_X10_fault : Cond.selects yX10_fault.cls yX10_fault yX10_fault ∈ jW := jW_mem (jtb 823 (by decide +kernel)) (by decide +kernel)
theorem md_X10_whyNotGive : jMd mX10_whyNotGive 2 := ⟨rfl, by decide +kernel, mc_X10_whyNotGive, wi_X10, ⟨by decide +kernel, by decide +kernel, by decide +kernel⟩, Nat.le_of_ble_eq_true rfl⟩
theorem im_X10_whyNotGive : Cond.instanceMethod yX10_whyNotGive ∈ jW := jW_mem (jtb 865 (by decide +kernel)) (by decide +kernel)
theorem se_X10_whyNotGive : Cond.selects yX10_whyNotGive.cls yX10_whyNotGive yX10_whyNotGive ∈ jW := jW_mem (jtp (q := (⟨"MorningBiteModel", "whyNotGive", "(II)I"⟩, 38)) 33 (by decide +kernel)) (by decide +kernel)
theorem md_X10_whyNot : jMd mX10_whyNot 3 := ⟨rfl, by decide +kernel, mc_X10_whyNot, wi_X10, ⟨by decide +kernel, by decide +kernel, by decide +kernel⟩, Nat.le_of_ble_eq_true rfl⟩
theorem im_X10_whyNot : Cond.instanceMethod yX10_whyNot ∈ jW := jW_mem (jtb 861 (by decide +kernel)) (by decide +kernel)
theorem se_X10_whyNot : Cond.selects yX10_whyNot.cls yX10_whyNot yX10_whyNot ∈ jW := jW_mem (jtp (q := (⟨"MorningBiteModel", "whyNot", "(III)I"⟩, 38)) 32 (by decide +kernel)) (by decide +kernel)
theorem md_X10_lookBehind : jMd mX10_lookBehind 3 := ⟨rfl, by decide +kernel, mc_X10_lookBehind, wi_X10, ⟨by decide +kernel, by decide +kernel, by decide +kernel⟩, Nat.le_of_ble_eq_true rfl⟩
theorem im_X10_lookBehind : Cond.instanceMethod yX10_lookBehind ∈ jW := jW_mem (jtb 881 (by decide +kernel)) (by decide +kernel)
theorem se_X10_lookBehind : Cond.selects yX10_lookBehind.cls yX10_lookBehind yX10_lookBehind ∈ jW := jW_mem (jtp (q := (⟨"MorningBiteModel", "lookBehind", "(III)I"⟩, 38)) 37 (by decide +kernel)) (by decide +kernel)
theorem md_X10_oldestNow : jMd mX10_oldestNow 0 := ⟨rfl, by decide +kernel, mc_X10_oldestNow, wi_X10, ⟨by decide +kernel, by decide +kernel, by decide +kernel⟩, Nat.le_of_ble_eq_true rfl⟩
theorem im_X10_oldestNow : Cond.instanceMethod yX10_oldestNow ∈ jW := jW_mem (jtb 889 (by decide +kernel)) (by decide +kernel)
theorem se_X10_oldestNow : Cond.selects yX10_oldestNow.cls yX10_oldestNow yX10_oldestNow ∈ jW := jW_mem (jtp (q := (⟨"MorningBiteModel", "oldestNow", "()I"⟩, 38)) 39 (by decide +kernel)) (by decide +kernel)
theorem md_X10_passing : jMd mX10_passing 0 := ⟨rfl, by decide +kernel, mc_X10_passing, wi_X10, ⟨by decide +kernel, by decide +kernel, by decide +kernel⟩, Nat.le_of_ble_eq_true rfl⟩
theorem im_X10_passing : Cond.instanceMethod yX10_passing ∈ jW := jW_mem (jtb 885 (by decide +kernel)) (by decide +kernel)
theorem se_X10_passing : Cond.selects yX10_passing.cls yX10_passing yX10_passing ∈ jW := jW_mem (jtp (q := (⟨"MorningBiteModel", "passing", "()I"⟩, 38)) 38 (by decide +kernel)) (by decide +kernel)
theorem md_X10_passMorning : jMd mX10_passMorning 0 := ⟨rfl, by decide +kernel, mc_X10_passMorning, wi_X10, ⟨by decide +kernel, by decide +kernel, by decide +kernel⟩, Nat.le_of_ble_eq_true rfl⟩
theorem im_X10_passMorning : Cond.instanceMethod yX10_passMorning ∈ jW := jW_mem (jtb 877 (by decide +kernel)) (by decide +kernel)
theorem se_X10_passMorning : Cond.selects yX10_passMorning.cls yX10_passMorning yX10_passMorning ∈ jW := jW_mem (jtp (q := (⟨"MorningBiteModel", "passMorning", "()V"⟩, 38)) 36 (by decide +kernel)) (by decide +kernel)
theorem md_X10_eat : jMd mX10_eat 2 := ⟨rfl, by decide +kernel, mc_X10_eat, wi_X10, ⟨by decide +kernel, by decide +kernel, by decide +kernel⟩, Nat.le_of_ble_eq_true rfl⟩
theorem im_X10_eat : Cond.instanceMethod yX10_eat ∈ jW := jW_mem (jtb 873 (by decide +kernel)) (by decide +kernel)
theorem se_X10_eat : Cond.selects yX10_eat.cls yX10_eat yX10_eat ∈ jW := jW_mem (jtp (q := (⟨"MorningBiteModel", "eat", "(II)V"⟩, 38)) 35 (by decide +kernel)) (by decide +kernel)
theorem md_X10_happen : jMd mX10_happen 3 := ⟨rfl, by decide +kernel, mc_X10_happen, wi_X10, ⟨by decide +kernel, by decide +kernel, by decide +kernel⟩, Nat.le_of_ble_eq_true rfl⟩
theorem im_X10_happen : Cond.instanceMethod yX10_happen ∈ jW := jW_mem (jtb 869 (by decide +kernel)) (by decide +kernel)
theorem se_X10_happen : Cond.selects yX10_happen.cls yX10_happen yX10_happen ∈ jW := jW_mem (jtp (q := (⟨"MorningBiteModel", "happen", "(III)V"⟩, 38)) 34 (by decide +kernel)) (by decide +kernel)
theorem md_X10_keepNow : jMd mX10_keepNow 0 := ⟨rfl, by decide +kernel, mc_X10_keepNow, wi_X10, ⟨by decide +kernel, by decide +kernel, by decide +kernel⟩, Nat.le_of_ble_eq_true rfl⟩
theorem im_X10_keepNow : Cond.instanceMethod yX10_keepNow ∈ jW := jW_mem (jtb 848 (by decide +kernel)) (by decide +kernel)
theorem se_X10_keepNow : Cond.selects yX10_keepNow.cls yX10_keepNow yX10_keepNow ∈ jW := jW_mem (jtp (q := (⟨"MorningBiteModel", "keepNow", "()V"⟩, 38)) 29 (by decide +kernel)) (by decide +kernel)
theorem md_X10_back : jMd mX10_back 1 := ⟨rfl, by decide +kernel, mc_X10_back, wi_X10, ⟨by decide +kernel, by decide +kernel, by decide +kernel⟩, Nat.le_of_ble_eq_true rfl⟩
theorem im_X10_back : Cond.instanceMethod yX10_back ∈ jW := jW_mem (jtb 893 (by decide +kernel)) (by decide +kernel)
theorem se_X10_back : Cond.selects yX10_back.cls yX10_back yX10_back ∈ jW := jW_mem (jtp (q := (⟨"MorningBiteModel", "back", "(I)I"⟩, 38)) 40 (by decide +kernel)) (by decide +kernel)
theorem md_X10_beginCount : jMd mX10_beginCount 0 := ⟨rfl, by decide +kernel, mc_X10_beginCount, wi_X10, ⟨by decide +kernel, by decide +kernel, by decide +kernel⟩, Nat.le_of_ble_eq_true rfl⟩
theorem im_X10_beginCount : Cond.instanceMethod yX10_beginCount ∈ jW := jW_mem (jtb 857 (by decide +kernel)) (by decide +kernel)
theorem se_X10_beginCount : Cond.selects yX10_beginCount.cls yX10_beginCount yX10_beginCount ∈ jW := jW_mem (jtp (q := (⟨"MorningBiteModel", "beginCount", "()V"⟩, 38)) 31 (by decide +kernel)) (by decide +kernel)
theorem md_X10_goDays : jMd mX10_goDays 0 := ⟨rfl, by decide +kernel, mc_X10_goDays, wi_X10, ⟨by decide +kernel, by decide +kernel, by decide +kernel⟩, Nat.le_of_ble_eq_true rfl⟩
theorem im_X10_goDays : Cond.instanceMethod yX10_goDays ∈ jW := jW_mem (jtb 853 (by decide +kernel)) (by decide +kernel)
theorem se_X10_goDays : Cond.selects yX10_goDays.cls yX10_goDays yX10_goDays ∈ jW := jW_mem (jtp (q := (⟨"MorningBiteModel", "goDays", "()V"⟩, 38)) 30 (by decide +kernel)) (by decide +kernel)
theorem md_X10_refusal : jMd mX10_refusal 0 := ⟨rfl, by decide +kernel, mc_X10_refusal, wi_X10, ⟨by decide +kernel, by decide +kernel, by decide +kernel⟩, Nat.le_of_ble_eq_true rfl⟩
theorem im_X10_refusal : Cond.instanceMethod yX10_refusal ∈ jW := jW_mem (jtb 844 (by decide +kernel)) (by decide +kernel)
theorem se_X10_refusal : Cond.selects yX10_refusal.cls yX10_refusal yX10_refusal ∈ jW := jW_mem (jtp (q := (⟨"MorningBiteModel", "refusal", "()I"⟩, 38)) 28 (by decide +kernel)) (by decide +kernel)
theorem md_X10_judge : jMd mX10_judge 1 := ⟨rfl, by decide +kernel, mc_X10_judge, wi_X10, ⟨by decide +kernel, by decide +kernel, by decide +kernel⟩, Nat.le_of_ble_eq_true rfl⟩
theorem im_X10_judge : Cond.instanceMethod yX10_judge ∈ jW := jW_mem (jtb 839 (by decide +kernel)) (by decide +kernel)
theorem se_X10_judge : Cond.selects yX10_judge.cls yX10_judge yX10_judge ∈ jW := jW_mem (jtb 840 (by decide +kernel)) (by decide +kernel)
theorem md_X10_behind : jMd mX10_behind 2 := ⟨rfl, by decide +kernel, mc_X10_behind, wi_X10, ⟨by decide +kernel, by decide +kernel, by decide +kernel⟩, Nat.le_of_ble_eq_true rfl⟩
theorem im_X10_behind : Cond.instanceMethod yX10_behind ∈ jW := jW_mem (jtb 896 (by decide +kernel)) (by decide +kernel)
theorem se_X10_behind : Cond.selects yX10_behind.cls yX10_behind yX10_behind ∈ jW := jW_mem (jtb 897 (by decide +kernel)) (by decide +kernel)
theorem md_X10_basket : jMd mX10_basket 0 := ⟨rfl, by decide +kernel, mc_X10_basket, wi_X10, ⟨by decide +kernel, by decide +kernel, by decide +kernel⟩, Nat.le_of_ble_eq_true rfl⟩
theorem im_X10_basket : Cond.instanceMethod yX10_basket ∈ jW := jW_mem (jtb 900 (by decide +kernel)) (by decide +kernel)
theorem se_X10_basket : Cond.selects yX10_basket.cls yX10_basket yX10_basket ∈ jW := jW_mem (jtb 901 (by decide +kernel)) (by decide +kernel)
theorem md_X10_passed : jMd mX10_passed 1 := ⟨rfl, by decide +kernel, mc_X10_passed, wi_X10, ⟨by decide +kernel, by decide +kernel, by decide +kernel⟩, Nat.le_of_ble_eq_true rfl⟩
theorem im_X10_passed : Cond.instanceMethod yX10_passed ∈ jW := jW_mem (jtb 904 (by decide +kernel)) (by decide +kernel)
theorem se_X10_passed : Cond.selects yX10_passed.cls yX10_passed yX10_passed ∈ jW := jW_mem (jtb 905 (by decide +kernel)) (by decide +kernel)
theorem md_X10_oldest : jMd mX10_oldest 1 := ⟨rfl, by decide +kernel, mc_X10_oldest, wi_X10, ⟨by decide +kernel, by decide +kernel, by decide +kernel⟩, Nat.le_of_ble_eq_true rfl⟩
theorem im_X10_oldest : Cond.instanceMethod yX10_oldest ∈ jW := jW_mem (jtb 908 (by decide +kernel)) (by decide +kernel)
theorem se_X10_oldest : Cond.selects yX10_oldest.cls yX10_oldest yX10_oldest ∈ jW := jW_mem (jtb 909 (by decide +kernel)) (by decide +kernel)
theorem md_X10_done : jMd mX10_done 0 := ⟨rfl, by decide +kernel, mc_X10_done, wi_X10, ⟨by decide +kernel, by decide +kernel, by decide +kernel⟩, Nat.le_of_ble_eq_true rfl⟩
theorem im_X10_done : Cond.instanceMethod yX10_done ∈ jW := jW_mem (jtb 912 (by decide +kernel)) (by decide +kernel)
theorem se_X10_done : Cond.selects yX10_done.cls yX10_done yX10_done ∈ jW := jW_mem (jtb 913 (by decide +kernel)) (by decide +kernel)
theorem md_X10_lasts : jMd mX10_lasts 2 := ⟨rfl, by decide +kernel, mc_X10_lasts, wi_X10, ⟨by decide +kernel, by decide +kernel, by decide +kernel⟩, Nat.le_of_ble_eq_true rfl⟩
theorem im_X10_lasts : Cond.instanceMethod yX10_lasts ∈ jW := jW_mem (jtb 916 (by decide +kernel)) (by decide +kernel)
theorem se_X10_lasts : Cond.selects yX10_lasts.cls yX10_lasts yX10_lasts ∈ jW := jW_mem (jtb 917 (by decide +kernel)) (by decide +kernel)
theorem md_X10_ageAt : jMd mX10_ageAt 2 := ⟨rfl, by decide +kernel, mc_X10_ageAt, wi_X10, ⟨by decide +kernel, by decide +kernel, by decide +kernel⟩, Nat.le_of_ble_eq_true rfl⟩
theorem im_X10_ageAt : Cond.instanceMethod yX10_ageAt ∈ jW := jW_mem (jtb 943 (by decide +kernel)) (by decide +kernel)
theorem se_X10_ageAt : Cond.selects yX10_ageAt.cls yX10_ageAt yX10_ageAt ∈ jW := jW_mem (jtp (q := (⟨"MorningBiteModel", "ageAt", "(II)I"⟩, 38)) 45 (by decide +kernel)) (by decide +kernel)
theorem md_X10_layAges : jMd mX10_layAges 3 := ⟨rfl, by decide +kernel, mc_X10_layAges, wi_X10, ⟨by decide +kernel, by decide +kernel, by decide +kernel⟩, Nat.le_of_ble_eq_true rfl⟩
theorem im_X10_layAges : Cond.instanceMethod yX10_layAges ∈ jW := jW_mem (jtb 935 (by decide +kernel)) (by decide +kernel)
theorem se_X10_layAges : Cond.selects yX10_layAges.cls yX10_layAges yX10_layAges ∈ jW := jW_mem (jtp (q := (⟨"MorningBiteModel", "layAges", "(III)V"⟩, 38)) 43 (by decide +kernel)) (by decide +kernel)
theorem md_X10_layAgeThen : jMd mX10_layAgeThen 4 := ⟨rfl, by decide +kernel, mc_X10_layAgeThen, wi_X10, ⟨by decide +kernel, by decide +kernel, by decide +kernel⟩, Nat.le_of_ble_eq_true rfl⟩
theorem im_X10_layAgeThen : Cond.instanceMethod yX10_layAgeThen ∈ jW := jW_mem (jtb 939 (by decide +kernel)) (by decide +kernel)
theorem se_X10_layAgeThen : Cond.selects yX10_layAgeThen.cls yX10_layAgeThen yX10_layAgeThen ∈ jW := jW_mem (jtp (q := (⟨"MorningBiteModel", "layAgeThen", "(IIII)V"⟩, 38)) 44 (by decide +kernel)) (by decide +kernel)
theorem md_X10_stateOf : jMd mX10_stateOf 3 := ⟨rfl, by decide +kernel, mc_X10_stateOf, wi_X10, ⟨by decide +kernel, by decide +kernel, by decide +kernel⟩, Nat.le_of_ble_eq_true rfl⟩
theorem is_X10_stateOf : Cond.static yX10_stateOf ∈ jW := jW_mem (jtb 965 (by decide +kernel)) (by decide +kernel)
theorem md_X10_thenOf : jMd mX10_thenOf 4 := ⟨rfl, by decide +kernel, mc_X10_thenOf, wi_X10, ⟨by decide +kernel, by decide +kernel, by decide +kernel⟩, Nat.le_of_ble_eq_true rfl⟩
theorem im_X10_thenOf : Cond.instanceMethod yX10_thenOf ∈ jW := jW_mem (jtb 962 (by decide +kernel)) (by decide +kernel)
theorem se_X10_thenOf : Cond.selects yX10_thenOf.cls yX10_thenOf yX10_thenOf ∈ jW := jW_mem (jtp (q := (⟨"MorningBiteModel", "thenOf", "(IIII)I"⟩, 38)) 49 (by decide +kernel)) (by decide +kernel)
theorem md_X10_halvesOf : jMd mX10_halvesOf 1 := ⟨rfl, by decide +kernel, mc_X10_halvesOf, wi_X10, ⟨by decide +kernel, by decide +kernel, by decide +kernel⟩, Nat.le_of_ble_eq_true rfl⟩
theorem is_X10_halvesOf : Cond.static yX10_halvesOf ∈ jW := jW_mem (jtb 958 (by decide +kernel)) (by decide +kernel)
theorem md_X10_halvesBy : jMd mX10_halvesBy 6 := ⟨rfl, by decide +kernel, mc_X10_halvesBy, wi_X10, ⟨by decide +kernel, by decide +kernel, by decide +kernel⟩, Nat.le_of_ble_eq_true rfl⟩
theorem im_X10_halvesBy : Cond.instanceMethod yX10_halvesBy ∈ jW := jW_mem (jtb 955 (by decide +kernel)) (by decide +kernel)
theorem se_X10_halvesBy : Cond.selects yX10_halvesBy.cls yX10_halvesBy yX10_halvesBy ∈ jW := jW_mem (jtp (q := (⟨"MorningBiteModel", "halvesBy", "(IIIIII)I"⟩, 38)) 48 (by decide +kernel)) (by decide +kernel)
theorem md_X10_manyAt : jMd mX10_manyAt 2 := ⟨rfl, by decide +kernel, mc_X10_manyAt, wi_X10, ⟨by decide +kernel, by decide +kernel, by decide +kernel⟩, Nat.le_of_ble_eq_true rfl⟩
theorem im_X10_manyAt : Cond.instanceMethod yX10_manyAt ∈ jW := jW_mem (jtb 951 (by decide +kernel)) (by decide +kernel)
theorem se_X10_manyAt : Cond.selects yX10_manyAt.cls yX10_manyAt yX10_manyAt ∈ jW := jW_mem (jtp (q := (⟨"MorningBiteModel", "manyAt", "(II)I"⟩, 38)) 47 (by decide +kernel)) (by decide +kernel)
theorem md_X10_layHalves : jMd mX10_layHalves 2 := ⟨rfl, by decide +kernel, mc_X10_layHalves, wi_X10, ⟨by decide +kernel, by decide +kernel, by decide +kernel⟩, Nat.le_of_ble_eq_true rfl⟩
theorem im_X10_layHalves : Cond.instanceMethod yX10_layHalves ∈ jW := jW_mem (jtb 947 (by decide +kernel)) (by decide +kernel)
theorem se_X10_layHalves : Cond.selects yX10_layHalves.cls yX10_layHalves yX10_layHalves ∈ jW := jW_mem (jtp (q := (⟨"MorningBiteModel", "layHalves", "(II)V"⟩, 38)) 46 (by decide +kernel)) (by decide +kernel)
theorem md_X10_findPlan : jMd mX10_findPlan 4 := ⟨rfl, by decide +kernel, mc_X10_findPlan, wi_X10, ⟨by decide +kernel, by decide +kernel, by decide +kernel⟩, Nat.le_of_ble_eq_true rfl⟩
theorem im_X10_findPlan : Cond.instanceMethod yX10_findPlan ∈ jW := jW_mem (jtb 931 (by decide +kernel)) (by decide +kernel)
theorem se_X10_findPlan : Cond.selects yX10_findPlan.cls yX10_findPlan yX10_findPlan ∈ jW := jW_mem (jtp (q := (⟨"MorningBiteModel", "findPlan", "(IIII)V"⟩, 38)) 42 (by decide +kernel)) (by decide +kernel)
theorem md_X10_planRefusal : jMd mX10_planRefusal 4 := ⟨rfl, by decide +kernel, mc_X10_planRefusal, wi_X10, ⟨by decide +kernel, by decide +kernel, by decide +kernel⟩, Nat.le_of_ble_eq_true rfl⟩
theorem im_X10_planRefusal : Cond.instanceMethod yX10_planRefusal ∈ jW := jW_mem (jtb 925 (by decide +kernel)) (by decide +kernel)
theorem se_X10_planRefusal : Cond.selects yX10_planRefusal.cls yX10_planRefusal yX10_planRefusal ∈ jW := jW_mem (jtp (q := (⟨"MorningBiteModel", "planRefusal", "(IIII)I"⟩, 38)) 41 (by decide +kernel)) (by decide +kernel)
theorem md_X10_keeps : jMd mX10_keeps 4 := ⟨rfl, by decide +kernel, mc_X10_keeps, wi_X10, ⟨by decide +kernel, by decide +kernel, by decide +kernel⟩, Nat.le_of_ble_eq_true rfl⟩
theorem im_X10_keeps : Cond.instanceMethod yX10_keeps ∈ jW := jW_mem (jtb 920 (by decide +kernel)) (by decide +kernel)
theorem se_X10_keeps : Cond.selects yX10_keeps.cls yX10_keeps yX10_keeps ∈ jW := jW_mem (jtb 921 (by decide +kernel)) (by decide +kernel)
theorem md_X10_firstHow : jMd mX10_firstHow 3 := ⟨rfl, by decide +kernel, mc_X10_firstHow, wi_X10, ⟨by decide +kernel, by decide +kernel, by decide +kernel⟩, Nat.le_of_ble_eq_true rfl⟩
theorem im_X10_firstHow : Cond.instanceMethod yX10_firstHow ∈ jW := jW_mem (jtb 973 (by decide +kernel)) (by decide +kernel)
theorem se_X10_firstHow : Cond.selects yX10_firstHow.cls yX10_firstHow yX10_firstHow ∈ jW := jW_mem (jtp (q := (⟨"MorningBiteModel", "firstHow", "(III)I"⟩, 38)) 50 (by decide +kernel)) (by decide +kernel)
theorem md_X10_plan : jMd mX10_plan 6 := ⟨rfl, by decide +kernel, mc_X10_plan, wi_X10, ⟨by decide +kernel, by decide +kernel, by decide +kernel⟩, Nat.le_of_ble_eq_true rfl⟩
theorem im_X10_plan : Cond.instanceMethod yX10_plan ∈ jW := jW_mem (jtb 968 (by decide +kernel)) (by decide +kernel)
theorem se_X10_plan : Cond.selects yX10_plan.cls yX10_plan yX10_plan ∈ jW := jW_mem (jtb 969 (by decide +kernel)) (by decide +kernel)
theorem md_X10_isEnvyless : jMd mX10_isEnvyless 0 := ⟨rfl, by decide +kernel, mc_X10_isEnvyless, wi_X10, ⟨by decide +kernel, by decide +kernel, by decide +kernel⟩, Nat.le_of_ble_eq_true rfl⟩
theorem im_X10_isEnvyless : Cond.instanceMethod yX10_isEnvyless ∈ jW := jW_mem (jtb 986 (by decide +kernel)) (by decide +kernel)
theorem se_X10_isEnvyless : Cond.selects yX10_isEnvyless.cls yX10_isEnvyless yX10_isEnvyless ∈ jW := jW_mem (jtp (q := (⟨"MorningBiteModel", "isEnvyless", "()Z"⟩, 38)) 52 (by decide +kernel)) (by decide +kernel)
theorem md_X10_shareOf : jMd mX10_shareOf 2 := ⟨rfl, by decide +kernel, mc_X10_shareOf, wi_X10, ⟨by decide +kernel, by decide +kernel, by decide +kernel⟩, Nat.le_of_ble_eq_true rfl⟩
theorem im_X10_shareOf : Cond.instanceMethod yX10_shareOf ∈ jW := jW_mem (jtb 982 (by decide +kernel)) (by decide +kernel)
theorem se_X10_shareOf : Cond.selects yX10_shareOf.cls yX10_shareOf yX10_shareOf ∈ jW := jW_mem (jtp (q := (⟨"MorningBiteModel", "shareOf", "(II)I"⟩, 38)) 51 (by decide +kernel)) (by decide +kernel)
theorem md_X10_envy : jMd mX10_envy 2 := ⟨rfl, by decide +kernel, mc_X10_envy, wi_X10, ⟨by decide +kernel, by decide +kernel, by decide +kernel⟩, Nat.le_of_ble_eq_true rfl⟩
theorem im_X10_envy : Cond.instanceMethod yX10_envy ∈ jW := jW_mem (jtb 976 (by decide +kernel)) (by decide +kernel)
theorem se_X10_envy : Cond.selects yX10_envy.cls yX10_envy yX10_envy ∈ jW := jW_mem (jtb 977 (by decide +kernel)) (by decide +kernel)
theorem md_X10_refuses : jMd mX10_refuses 1 := ⟨rfl, by decide +kernel, mc_X10_refuses, wi_X10, ⟨by decide +kernel, by decide +kernel, by decide +kernel⟩, Nat.le_of_ble_eq_true rfl⟩
theorem im_X10_refuses : Cond.instanceMethod yX10_refuses ∈ jW := jW_mem (jtb 989 (by decide +kernel)) (by decide +kernel)
theorem se_X10_refuses : Cond.selects yX10_refuses.cls yX10_refuses yX10_refuses ∈ jW := jW_mem (jtb 990 (by decide +kernel)) (by decide +kernel)
theorem md_X10_seen : jMd mX10_seen 2 := ⟨rfl, by decide +kernel, mc_X10_seen, wi_X10, ⟨by decide +kernel, by decide +kernel, by decide +kernel⟩, Nat.le_of_ble_eq_true rfl⟩
theorem im_X10_seen : Cond.instanceMethod yX10_seen ∈ jW := jW_mem (jtb 994 (by decide +kernel)) (by decide +kernel)
theorem se_X10_seen : Cond.selects yX10_seen.cls yX10_seen yX10_seen ∈ jW := jW_mem (jtb 995 (by decide +kernel)) (by decide +kernel)
theorem md_X10_forget : jMd mX10_forget 0 := ⟨rfl, by decide +kernel, mc_X10_forget, wi_X10, ⟨by decide +kernel, by decide +kernel, by decide +kernel⟩, Nat.le_of_ble_eq_true rfl⟩
theorem im_X10_forget : Cond.instanceMethod yX10_forget ∈ jW := jW_mem (jtb 998 (by decide +kernel)) (by decide +kernel)
theorem se_X10_forget : Cond.selects yX10_forget.cls yX10_forget yX10_forget ∈ jW := jW_mem (jtb 999 (by decide +kernel)) (by decide +kernel)
theorem md_X10_lookedBy : jMd mX10_lookedBy 2 := ⟨rfl, by decide +kernel, mc_X10_lookedBy, wi_X10, ⟨by decide +kernel, by decide +kernel, by decide +kernel⟩, Nat.le_of_ble_eq_true rfl⟩
theorem im_X10_lookedBy : Cond.instanceMethod yX10_lookedBy ∈ jW := jW_mem (jtb 1015 (by decide +kernel)) (by decide +kernel)
theorem se_X10_lookedBy : Cond.selects yX10_lookedBy.cls yX10_lookedBy yX10_lookedBy ∈ jW := jW_mem (jtp (q := (⟨"MorningBiteModel", "lookedBy", "(II)I"⟩, 38)) 55 (by decide +kernel)) (by decide +kernel)
theorem md_X10_fits : jMd mX10_fits 1 := ⟨rfl, by decide +kernel, mc_X10_fits, wi_X10, ⟨by decide +kernel, by decide +kernel, by decide +kernel⟩, Nat.le_of_ble_eq_true rfl⟩
theorem im_X10_fits : Cond.instanceMethod yX10_fits ∈ jW := jW_mem (jtb 1011 (by decide +kernel)) (by decide +kernel)
theorem se_X10_fits : Cond.selects yX10_fits.cls yX10_fits yX10_fits ∈ jW := jW_mem (jtp (q := (⟨"MorningBiteModel", "fits", "(I)Z"⟩, 38)) 54 (by decide +kernel)) (by decide +kernel)
theorem md_X10_givers : jMd mX10_givers 0 := ⟨rfl, by decide +kernel, mc_X10_givers, wi_X10, ⟨by decide +kernel, by decide +kernel, by decide +kernel⟩, Nat.le_of_ble_eq_true rfl⟩
theorem im_X10_givers : Cond.instanceMethod yX10_givers ∈ jW := jW_mem (jtb 1007 (by decide +kernel)) (by decide +kernel)
theorem se_X10_givers : Cond.selects yX10_givers.cls yX10_givers yX10_givers ∈ jW := jW_mem (jtp (q := (⟨"MorningBiteModel", "givers", "()I"⟩, 38)) 53 (by decide +kernel)) (by decide +kernel)
theorem md_X10_gave : jMd mX10_gave 1 := ⟨rfl, by decide +kernel, mc_X10_gave, wi_X10, ⟨by decide +kernel, by decide +kernel, by decide +kernel⟩, Nat.le_of_ble_eq_true rfl⟩
theorem im_X10_gave : Cond.instanceMethod yX10_gave ∈ jW := jW_mem (jtb 1002 (by decide +kernel)) (by decide +kernel)
theorem se_X10_gave : Cond.selects yX10_gave.cls yX10_gave yX10_gave ∈ jW := jW_mem (jtb 1003 (by decide +kernel)) (by decide +kernel)
theorem md_X10_mostAlike : jMd mX10_mostAlike 2 := ⟨rfl, by decide +kernel, mc_X10_mostAlike, wi_X10, ⟨by decide +kernel, by decide +kernel, by decide +kernel⟩, Nat.le_of_ble_eq_true rfl⟩
theorem im_X10_mostAlike : Cond.instanceMethod yX10_mostAlike ∈ jW := jW_mem (jtb 1023 (by decide +kernel)) (by decide +kernel)
theorem se_X10_mostAlike : Cond.selects yX10_mostAlike.cls yX10_mostAlike yX10_mostAlike ∈ jW := jW_mem (jtp (q := (⟨"MorningBiteModel", "mostAlike", "(II)I"⟩, 38)) 56 (by decide +kernel)) (by decide +kernel)
theorem md_X10_ask : jMd mX10_ask 1 := ⟨rfl, by decide +kernel, mc_X10_ask, wi_X10, ⟨by decide +kernel, by decide +kernel, by decide +kernel⟩, Nat.le_of_ble_eq_true rfl⟩
theorem im_X10_ask : Cond.instanceMethod yX10_ask ∈ jW := jW_mem (jtb 1018 (by decide +kernel)) (by decide +kernel)
theorem se_X10_ask : Cond.selects yX10_ask.cls yX10_ask yX10_ask ∈ jW := jW_mem (jtb 1019 (by decide +kernel)) (by decide +kernel)
theorem md_X10_thieves : jMd mX10_thieves 3 := ⟨rfl, by decide +kernel, mc_X10_thieves, wi_X10, ⟨by decide +kernel, by decide +kernel, by decide +kernel⟩, Nat.le_of_ble_eq_true rfl⟩
theorem im_X10_thieves : Cond.instanceMethod yX10_thieves ∈ jW := jW_mem (jtb 1026 (by decide +kernel)) (by decide +kernel)
theorem se_X10_thieves : Cond.selects yX10_thieves.cls yX10_thieves yX10_thieves ∈ jW := jW_mem (jtb 1027 (by decide +kernel)) (by decide +kernel)
theorem md_X10_lowest : jMd mX10_lowest 3 := ⟨rfl, by decide +kernel, mc_X10_lowest, wi_X10, ⟨by decide +kernel, by decide +kernel, by decide +kernel⟩, Nat.le_of_ble_eq_true rfl⟩
theorem is_X10_lowest : Cond.static yX10_lowest ∈ jW := jW_mem (jtb 1042 (by decide +kernel)) (by decide +kernel)
theorem md_X10_wormyDay : jMd mX10_wormyDay 2 := ⟨rfl, by decide +kernel, mc_X10_wormyDay, wi_X10, ⟨by decide +kernel, by decide +kernel, by decide +kernel⟩, Nat.le_of_ble_eq_true rfl⟩
theorem im_X10_wormyDay : Cond.instanceMethod yX10_wormyDay ∈ jW := jW_mem (jtb 1039 (by decide +kernel)) (by decide +kernel)
theorem se_X10_wormyDay : Cond.selects yX10_wormyDay.cls yX10_wormyDay yX10_wormyDay ∈ jW := jW_mem (jtp (q := (⟨"MorningBiteModel", "wormyDay", "(II)V"⟩, 38)) 57 (by decide +kernel)) (by decide +kernel)
theorem md_X10_worms : jMd mX10_worms 5 := ⟨rfl, by decide +kernel, mc_X10_worms, wi_X10, ⟨by decide +kernel, by decide +kernel, by decide +kernel⟩, Nat.le_of_ble_eq_true rfl⟩
theorem im_X10_worms : Cond.instanceMethod yX10_worms ∈ jW := jW_mem (jtb 1030 (by decide +kernel)) (by decide +kernel)
theorem se_X10_worms : Cond.selects yX10_worms.cls yX10_worms yX10_worms ∈ jW := jW_mem (jtb 1031 (by decide +kernel)) (by decide +kernel)
theorem md_X10_year : jMd mX10_year 3 := ⟨rfl, by decide +kernel, mc_X10_year, wi_X10, ⟨by decide +kernel, by decide +kernel, by decide +kernel⟩, Nat.le_of_ble_eq_true rfl⟩
theorem im_X10_year : Cond.instanceMethod yX10_year ∈ jW := jW_mem (jtb 1045 (by decide +kernel)) (by decide +kernel)
theorem se_X10_year : Cond.selects yX10_year.cls yX10_year yX10_year ∈ jW := jW_mem (jtb 1046 (by decide +kernel)) (by decide +kernel)
theorem md_X10_pass : jMd mX10_pass 1 := ⟨rfl, by decide +kernel, mc_X10_pass, wi_X10, ⟨by decide +kernel, by decide +kernel, by decide +kernel⟩, Nat.le_of_ble_eq_true rfl⟩
theorem im_X10_pass : Cond.instanceMethod yX10_pass ∈ jW := jW_mem (jtb 1062 (by decide +kernel)) (by decide +kernel)
theorem se_X10_pass : Cond.selects yX10_pass.cls yX10_pass yX10_pass ∈ jW := jW_mem (jtp (q := (⟨"MorningBiteModel", "pass", "(I)I"⟩, 38)) 59 (by decide +kernel)) (by decide +kernel)
theorem md_X10_passAll : jMd mX10_passAll 0 := ⟨rfl, by decide +kernel, mc_X10_passAll, wi_X10, ⟨by decide +kernel, by decide +kernel, by decide +kernel⟩, Nat.le_of_ble_eq_true rfl⟩
theorem im_X10_passAll : Cond.instanceMethod yX10_passAll ∈ jW := jW_mem (jtb 1058 (by decide +kernel)) (by decide +kernel)
theorem se_X10_passAll : Cond.selects yX10_passAll.cls yX10_passAll yX10_passAll ∈ jW := jW_mem (jtp (q := (⟨"MorningBiteModel", "passAll", "()V"⟩, 38)) 58 (by decide +kernel)) (by decide +kernel)
theorem md_X10_image : jMd mX10_image 1 := ⟨rfl, by decide +kernel, mc_X10_image, wi_X10, ⟨by decide +kernel, by decide +kernel, by decide +kernel⟩, Nat.le_of_ble_eq_true rfl⟩
theorem im_X10_image : Cond.instanceMethod yX10_image ∈ jW := jW_mem (jtb 1053 (by decide +kernel)) (by decide +kernel)
theorem se_X10_image : Cond.selects yX10_image.cls yX10_image yX10_image ∈ jW := jW_mem (jtb 1054 (by decide +kernel)) (by decide +kernel)
theorem md_X10_restore : jMd mX10_restore 1 := ⟨rfl, by decide +kernel, mc_X10_restore, wi_X10, ⟨by decide +kernel, by decide +kernel, by decide +kernel⟩, Nat.le_of_ble_eq_true rfl⟩
theorem im_X10_restore : Cond.instanceMethod yX10_restore ∈ jW := jW_mem (jtb 1065 (by decide +kernel)) (by decide +kernel)
theorem se_X10_restore : Cond.selects yX10_restore.cls yX10_restore yX10_restore ∈ jW := jW_mem (jtb 1066 (by decide +kernel)) (by decide +kernel)
theorem md_X10_toldOf : jMd mX10_toldOf 2 := ⟨rfl, by decide +kernel, mc_X10_toldOf, wi_X10, ⟨by decide +kernel, by decide +kernel, by decide +kernel⟩, Nat.le_of_ble_eq_true rfl⟩
theorem im_X10_toldOf : Cond.instanceMethod yX10_toldOf ∈ jW := jW_mem (jtb 1075 (by decide +kernel)) (by decide +kernel)
theorem se_X10_toldOf : Cond.selects yX10_toldOf.cls yX10_toldOf yX10_toldOf ∈ jW := jW_mem (jtp (q := (⟨"MorningBiteModel", "toldOf", "(II)I"⟩, 38)) 60 (by decide +kernel)) (by decide +kernel)
theorem md_X10_told : jMd mX10_told 1 := ⟨rfl, by decide +kernel, mc_X10_told, wi_X10, ⟨by decide +kernel, by decide +kernel, by decide +kernel⟩, Nat.le_of_ble_eq_true rfl⟩
theorem im_X10_told : Cond.instanceMethod yX10_told ∈ jW := jW_mem (jtb 1069 (by decide +kernel)) (by decide +kernel)
theorem se_X10_told : Cond.selects yX10_told.cls yX10_told yX10_told ∈ jW := jW_mem (jtb 1070 (by decide +kernel)) (by decide +kernel)
theorem md_J6_compare_7cf53 : jMd mJ6_compare_7cf53 2 := ⟨rfl, by decide +kernel, mc_J6_compare_7cf53, wi_J6, ⟨by decide +kernel, by decide +kernel, by decide +kernel⟩, Nat.le_of_ble_eq_true rfl⟩
theorem is_J6_compare_7cf53 : Cond.static yJ6_compare_7cf53 ∈ jW := jW_mem (jtb 411 (by decide +kernel)) (by decide +kernel)
theorem md_J6_bitCount_0f7a4 : jMd mJ6_bitCount_0f7a4 1 := ⟨rfl, by decide +kernel, mc_J6_bitCount_0f7a4, wi_J6, ⟨by decide +kernel, by decide +kernel, by decide +kernel⟩, Nat.le_of_ble_eq_true rfl⟩
theorem is_J6_bitCount_0f7a4 : Cond.static yJ6_bitCount_0f7a4 ∈ jW := jW_mem (jtb 297 (by decide +kernel)) (by decide +kernel)
theorem is_J9_max_7cf53 : Cond.static yJ9_max_7cf53 ∈ jW := jW_mem (jtb 394 (by decide +kernel)) (by decide +kernel)
theorem is_J9_max_f86c9 : Cond.static yJ9_max_f86c9 ∈ jW := jW_mem (jtb 609 (by decide +kernel)) (by decide +kernel)
theorem is_J9_min_7cf53 : Cond.static yJ9_min_7cf53 ∈ jW := jW_mem (jtb 391 (by decide +kernel)) (by decide +kernel)
theorem wf_X0_12 : Cond.fieldLink RX0 12 RX0 "end" "LMorningBite$Hill;" ∈ jW := jW_mem (jtb 108 (by decide +kernel)) (by decide +kernel)
theorem wf_X0_18 : Cond.fieldLink RX0 18 RX0 "ahead" "[I" ∈ jW := jW_mem (jtb 110 (by decide +kernel)) (by decide +kernel)
theorem wf_X0_24 : Cond.fieldLink RX0 24 RX0 "oldestAt" "[I" ∈ jW := jW_mem (jtb 111 (by decide +kernel)) (by decide +kernel)
theorem wf_X0_31 : Cond.fieldLink RX0 31 RX0 "mornings" "I" ∈ jW := jW_mem (jtb 113 (by decide +kernel)) (by decide +kernel)
theorem wf_X0_35 : Cond.fieldLink RX0 35 RX0 "badAct" "I" ∈ jW := jW_mem (jtb 115 (by decide +kernel)) (by decide +kernel)
theorem wf_X0_38 : Cond.fieldLink RX0 38 RX0 "badWhy" "I" ∈ jW := jW_mem (jtb 117 (by decide +kernel)) (by decide +kernel)
theorem wf_X0_41 : Cond.fieldLink RX0 41 RX0 "passMorning" "I" ∈ jW := jW_mem (jtb 119 (by decide +kernel)) (by decide +kernel)
theorem wf_X0_44 : Cond.fieldLink RX0 44 RX0 "passPair" "I" ∈ jW := jW_mem (jtb 121 (by decide +kernel)) (by decide +kernel)
theorem wf_X0_47 : Cond.fieldLinkNest RX0 47 RX4 "acts" "I" "MorningBite" ∈ jNW := jNW_mem (jtb 84 (by decide +kernel)) (by decide +kernel)
theorem wf_X0_50 : Cond.fieldLinkNest RX0 50 RX4 "kinds" "[I" "MorningBite" ∈ jNW := jNW_mem (jtb 77 (by decide +kernel)) (by decide +kernel)
theorem wf_X0_53 : Cond.fieldLinkNest RX0 53 RX4 "doers" "[I" "MorningBite" ∈ jNW := jNW_mem (jtb 79 (by decide +kernel)) (by decide +kernel)
theorem wf_X0_56 : Cond.fieldLinkNest RX0 56 RX4 "receivers" "[I" "MorningBite" ∈ jNW := jNW_mem (jtb 81 (by decide +kernel)) (by decide +kernel)
theorem wf_X0_63 : Cond.fieldLinkNest RX0 63 RX1 "looks" "[I" "MorningBite" ∈ jNW := jNW_mem (jtb 30 (by decide +kernel)) (by decide +kernel)
theorem wf_X1_9 : Cond.fieldLink RX1 9 RX1 "looks" "[I" ∈ jW := jW_mem (jtb 29 (by decide +kernel)) (by decide +kernel)
theorem wf_X1_15 : Cond.fieldLink RX1 15 RX1 "pace" "[I" ∈ jW := jW_mem (jtb 36 (by decide +kernel)) (by decide +kernel)
theorem wf_X1_18 : Cond.fieldLink RX1 18 RX1 "youth" "[I" ∈ jW := jW_mem (jtb 39 (by decide +kernel)) (by decide +kernel)
theorem wf_X1_21 : Cond.fieldLink RX1 21 RX1 "eaten" "[I" ∈ jW := jW_mem (jtb 41 (by decide +kernel)) (by decide +kernel)
theorem wf_X1_24 : Cond.fieldLink RX1 24 RX1 "grown" "I" ∈ jW := jW_mem (jtb 47 (by decide +kernel)) (by decide +kernel)
theorem wf_X1_28 : Cond.fieldLink RX1 28 RX1 "she" "I" ∈ jW := jW_mem (jtb 49 (by decide +kernel)) (by decide +kernel)
theorem wf_X1_31 : Cond.fieldLink RX1 31 RX1 "there" "I" ∈ jW := jW_mem (jtb 43 (by decide +kernel)) (by decide +kernel)
theorem wf_X1_50 : Cond.fieldLink RX1 50 RX1 "basket" "I" ∈ jW := jW_mem (jtb 46 (by decide +kernel)) (by decide +kernel)
theorem wf_X10_7 : Cond.fieldLink RX10 7 RX10 "looks" "[I" ∈ jW := jW_mem (jtb 671 (by decide +kernel)) (by decide +kernel)
theorem wf_X10_13 : Cond.fieldLink RX10 13 RX10 "pace" "[I" ∈ jW := jW_mem (jtb 672 (by decide +kernel)) (by decide +kernel)
theorem wf_X10_16 : Cond.fieldLink RX10 16 RX10 "youth" "[I" ∈ jW := jW_mem (jtb 673 (by decide +kernel)) (by decide +kernel)
theorem wf_X10_19 : Cond.fieldLink RX10 19 RX10 "eaten" "[I" ∈ jW := jW_mem (jtb 674 (by decide +kernel)) (by decide +kernel)
theorem wf_X10_22 : Cond.fieldLink RX10 22 RX10 "sightOne" "[I" ∈ jW := jW_mem (jtb 675 (by decide +kernel)) (by decide +kernel)
theorem wf_X10_25 : Cond.fieldLink RX10 25 RX10 "sightLooks" "[I" ∈ jW := jW_mem (jtb 676 (by decide +kernel)) (by decide +kernel)
theorem wf_X10_28 : Cond.fieldLink RX10 28 RX10 "pad" "[I" ∈ jW := jW_mem (jtb 678 (by decide +kernel)) (by decide +kernel)
theorem wf_X10_31 : Cond.fieldLink RX10 31 RX10 "act" "[I" ∈ jW := jW_mem (jtb 680 (by decide +kernel)) (by decide +kernel)
theorem wf_X10_34 : Cond.fieldLink RX10 34 RX10 "who" "[I" ∈ jW := jW_mem (jtb 681 (by decide +kernel)) (by decide +kernel)
theorem wf_X10_37 : Cond.fieldLink RX10 37 RX10 "whom" "[I" ∈ jW := jW_mem (jtb 682 (by decide +kernel)) (by decide +kernel)
theorem wf_X10_40 : Cond.fieldLink RX10 40 RX10 "oldestBy" "[I" ∈ jW := jW_mem (jtb 687 (by decide +kernel)) (by decide +kernel)
theorem wf_X10_43 : Cond.fieldLink RX10 43 RX10 "ahead" "[I" ∈ jW := jW_mem (jtb 688 (by decide +kernel)) (by decide +kernel)
theorem wf_X10_46 : Cond.fieldLink RX10 46 RX10 "had" "[I" ∈ jW := jW_mem (jtb 689 (by decide +kernel)) (by decide +kernel)
theorem wf_X10_49 : Cond.fieldLink RX10 49 RX10 "member" "[I" ∈ jW := jW_mem (jtb 692 (by decide +kernel)) (by decide +kernel)
theorem wf_X10_52 : Cond.fieldLink RX10 52 RX10 "age" "[I" ∈ jW := jW_mem (jtb 693 (by decide +kernel)) (by decide +kernel)
theorem wf_X10_55 : Cond.fieldLink RX10 55 RX10 "ageMany" "[I" ∈ jW := jW_mem (jtb 694 (by decide +kernel)) (by decide +kernel)
theorem wf_X10_58 : Cond.fieldLink RX10 58 RX10 "ageThen" "[I" ∈ jW := jW_mem (jtb 695 (by decide +kernel)) (by decide +kernel)
theorem wf_X10_62 : Cond.fieldLink RX10 62 RX10 "halvesFrom" "[I" ∈ jW := jW_mem (jtb 696 (by decide +kernel)) (by decide +kernel)
theorem wf_X10_65 : Cond.fieldLink RX10 65 RX10 "ledOn" "[I" ∈ jW := jW_mem (jtb 697 (by decide +kernel)) (by decide +kernel)
theorem wf_X10_68 : Cond.fieldLink RX10 68 RX10 "gets" "[I" ∈ jW := jW_mem (jtb 698 (by decide +kernel)) (by decide +kernel)
theorem wf_X10_71 : Cond.fieldLink RX10 71 RX10 "parts" "[J" ∈ jW := jW_mem (jtb 699 (by decide +kernel)) (by decide +kernel)
theorem wf_X10_75 : Cond.fieldLink RX10 75 RX10 "partsThen" "[J" ∈ jW := jW_mem (jtb 700 (by decide +kernel)) (by decide +kernel)
theorem wf_X10_78 : Cond.fieldLink RX10 78 RX10 "kept" "[I" ∈ jW := jW_mem (jtb 701 (by decide +kernel)) (by decide +kernel)
theorem wf_X10_81 : Cond.fieldLink RX10 81 RX10 "isKept" "[Z" ∈ jW := jW_mem (jtb 702 (by decide +kernel)) (by decide +kernel)
theorem wf_X10_85 : Cond.fieldLink RX10 85 RX10 "grown" "I" ∈ jW := jW_mem (jtb 669 (by decide +kernel)) (by decide +kernel)
theorem wf_X10_89 : Cond.fieldLink RX10 89 RX10 "isHere" "I" ∈ jW := jW_mem (jtb 670 (by decide +kernel)) (by decide +kernel)
theorem wf_X10_98 : Cond.fieldLink RX10 98 RX10 "there" "I" ∈ jW := jW_mem (jtb 667 (by decide +kernel)) (by decide +kernel)
theorem wf_X10_117 : Cond.fieldLink RX10 117 RX10 "inBasket" "I" ∈ jW := jW_mem (jtb 668 (by decide +kernel)) (by decide +kernel)
theorem wf_X10_124 : Cond.fieldLink RX10 124 RX10 "padMany" "I" ∈ jW := jW_mem (jtb 679 (by decide +kernel)) (by decide +kernel)
theorem wf_X10_131 : Cond.fieldLink RX10 131 RX10 "acts" "I" ∈ jW := jW_mem (jtb 683 (by decide +kernel)) (by decide +kernel)
theorem wf_X10_155 : Cond.fieldLink RX10 155 RX10 "firstPassed" "I" ∈ jW := jW_mem (jtb 685 (by decide +kernel)) (by decide +kernel)
theorem wf_X10_158 : Cond.fieldLink RX10 158 RX10 "mornings" "I" ∈ jW := jW_mem (jtb 684 (by decide +kernel)) (by decide +kernel)
theorem wf_X10_161 : Cond.fieldLink RX10 161 RX10 "twoPassed" "I" ∈ jW := jW_mem (jtb 686 (by decide +kernel)) (by decide +kernel)
theorem wf_X10_177 : Cond.fieldLink RX10 177 RX10 "badAct" "I" ∈ jW := jW_mem (jtb 690 (by decide +kernel)) (by decide +kernel)
theorem wf_X10_180 : Cond.fieldLink RX10 180 RX10 "badWhy" "I" ∈ jW := jW_mem (jtb 691 (by decide +kernel)) (by decide +kernel)
theorem wf_X10_259 : Cond.fieldLink RX10 259 RX10 "sights" "I" ∈ jW := jW_mem (jtb 677 (by decide +kernel)) (by decide +kernel)
theorem wf_X10_297 : Cond.fieldLink RX10 297 RX10 "isWriting" "Z" ∈ jW := jW_mem (jtb 704 (by decide +kernel)) (by decide +kernel)
theorem wf_X10_301 : Cond.fieldLink RX10 301 RX10 "keptAt" "I" ∈ jW := jW_mem (jtb 703 (by decide +kernel)) (by decide +kernel)
theorem wf_X2_10 : Cond.fieldLink RX2 10 RX2 "hill" "LMorningBite$Hill;" ∈ jW := jW_mem (jtb 245 (by decide +kernel)) (by decide +kernel)
theorem wf_X2_19 : Cond.fieldLink RX2 19 RX2 "sights" "LMorningBite$Sights;" ∈ jW := jW_mem (jtb 246 (by decide +kernel)) (by decide +kernel)
theorem wf_X2_30 : Cond.fieldLink RX2 30 RX2 "kept" "Z" ∈ jW := jW_mem (jtb 247 (by decide +kernel)) (by decide +kernel)
theorem wf_X3_11 : Cond.fieldLink RX3 11 RX3 "seats" "[I" ∈ jW := jW_mem (jtb 148 (by decide +kernel)) (by decide +kernel)
theorem wf_X3_17 : Cond.fieldLink RX3 17 RX3 "ages" "[[I" ∈ jW := jW_mem (jtb 149 (by decide +kernel)) (by decide +kernel)
theorem wf_X3_20 : Cond.fieldLink RX3 20 RX3 "counts" "[I" ∈ jW := jW_mem (jtb 150 (by decide +kernel)) (by decide +kernel)
theorem wf_X3_23 : Cond.fieldLink RX3 23 RX3 "nexts" "[[I" ∈ jW := jW_mem (jtb 151 (by decide +kernel)) (by decide +kernel)
theorem wf_X3_26 : Cond.fieldLink RX3 26 RX3 "fewest" "[I" ∈ jW := jW_mem (jtb 152 (by decide +kernel)) (by decide +kernel)
theorem wf_X3_29 : Cond.fieldLink RX3 29 RX3 "starts" "[I" ∈ jW := jW_mem (jtb 153 (by decide +kernel)) (by decide +kernel)
theorem wf_X3_32 : Cond.fieldLink RX3 32 RX3 "row" "[I" ∈ jW := jW_mem (jtb 154 (by decide +kernel)) (by decide +kernel)
theorem wf_X3_44 : Cond.fieldLink RX3 44 RX3 "days" "I" ∈ jW := jW_mem (jtb 155 (by decide +kernel)) (by decide +kernel)
theorem wf_X3_48 : Cond.fieldLink RX3 48 RX3 "halves" "I" ∈ jW := jW_mem (jtb 156 (by decide +kernel)) (by decide +kernel)
theorem wf_X3_51 : Cond.fieldLink RX3 51 RX3 "most" "I" ∈ jW := jW_mem (jtb 157 (by decide +kernel)) (by decide +kernel)
theorem wf_X3_76 : Cond.fieldLinkNest RX3 76 RX1 "looks" "[I" "MorningBite" ∈ jNW := jNW_mem (jtb 33 (by decide +kernel)) (by decide +kernel)
theorem wf_X3_94 : Cond.fieldLinkNest RX3 94 RX1 "pace" "[I" "MorningBite" ∈ jNW := jNW_mem (jtb 37 (by decide +kernel)) (by decide +kernel)
theorem wf_X3_103 : Cond.fieldLink RX3 103 RX3 "pick" "I" ∈ jW := jW_mem (jtb 158 (by decide +kernel)) (by decide +kernel)
theorem wf_X4_11 : Cond.fieldLink RX4 11 RX4 "signs" "[I" ∈ jW := jW_mem (jtb 75 (by decide +kernel)) (by decide +kernel)
theorem wf_X4_15 : Cond.fieldLink RX4 15 RX4 "kinds" "[I" ∈ jW := jW_mem (jtb 76 (by decide +kernel)) (by decide +kernel)
theorem wf_X4_18 : Cond.fieldLink RX4 18 RX4 "doers" "[I" ∈ jW := jW_mem (jtb 78 (by decide +kernel)) (by decide +kernel)
theorem wf_X4_21 : Cond.fieldLink RX4 21 RX4 "receivers" "[I" ∈ jW := jW_mem (jtb 80 (by decide +kernel)) (by decide +kernel)
theorem wf_X4_24 : Cond.fieldLink RX4 24 RX4 "size" "I" ∈ jW := jW_mem (jtb 82 (by decide +kernel)) (by decide +kernel)
theorem wf_X4_28 : Cond.fieldLink RX4 28 RX4 "acts" "I" ∈ jW := jW_mem (jtb 85 (by decide +kernel)) (by decide +kernel)
theorem wf_X5_9 : Cond.fieldLink RX5 9 RX5 "behind" "[I" ∈ jW := jW_mem (jtb 188 (by decide +kernel)) (by decide +kernel)
theorem wf_X5_15 : Cond.fieldLink RX5 15 RX5 "count" "I" ∈ jW := jW_mem (jtb 189 (by decide +kernel)) (by decide +kernel)
theorem wf_X5_19 : Cond.fieldLink RX5 19 RX5 "first" "I" ∈ jW := jW_mem (jtb 191 (by decide +kernel)) (by decide +kernel)
theorem wf_X5_36 : Cond.fieldLinkNest RX5 36 RX1 "looks" "[I" "MorningBite" ∈ jNW := jNW_mem (jtb 32 (by decide +kernel)) (by decide +kernel)
theorem wf_X6_11 : Cond.fieldLink RX6 11 RX6 "ones" "[I" ∈ jW := jW_mem (jtb 206 (by decide +kernel)) (by decide +kernel)
theorem wf_X6_15 : Cond.fieldLink RX6 15 RX6 "looked" "[I" ∈ jW := jW_mem (jtb 207 (by decide +kernel)) (by decide +kernel)
theorem wf_X6_18 : Cond.fieldLink RX6 18 RX6 "count" "I" ∈ jW := jW_mem (jtb 208 (by decide +kernel)) (by decide +kernel)
theorem wf_X6_54 : Cond.fieldLinkNest RX6 54 RX1 "looks" "[I" "MorningBite" ∈ jNW := jNW_mem (jtb 34 (by decide +kernel)) (by decide +kernel)
theorem wf_X7_31 : Cond.fieldLinkNest RX7 31 RX1 "looks" "[I" "MorningBite" ∈ jNW := jNW_mem (jtb 31 (by decide +kernel)) (by decide +kernel)
theorem wf_X8_12 : Cond.fieldLink RX8 12 RX8 "end" "LMorningBite$Hill;" ∈ jW := jW_mem (jtb 225 (by decide +kernel)) (by decide +kernel)
theorem wf_X8_22 : Cond.fieldLink RX8 22 RX8 "mornings" "I" ∈ jW := jW_mem (jtb 227 (by decide +kernel)) (by decide +kernel)
theorem wf_X9_12 : Cond.fieldLink RX9 12 RX9 "hill" "LMorningBite$Hill;" ∈ jW := jW_mem (jtb 256 (by decide +kernel)) (by decide +kernel)
theorem wf_X9_19 : Cond.fieldLink RX9 19 RX9 "pad" "LMorningBite$Pad;" ∈ jW := jW_mem (jtb 257 (by decide +kernel)) (by decide +kernel)
theorem wf_X9_26 : Cond.fieldLink RX9 26 RX9 "days" "LMorningBite$Days;" ∈ jW := jW_mem (jtb 258 (by decide +kernel)) (by decide +kernel)
theorem wf_X9_33 : Cond.fieldLink RX9 33 RX9 "keeper" "LMorningBite$Keeper;" ∈ jW := jW_mem (jtb 259 (by decide +kernel)) (by decide +kernel)
theorem wf_X9_40 : Cond.fieldLink RX9 40 RX9 "shares" "LMorningBite$Shares;" ∈ jW := jW_mem (jtb 260 (by decide +kernel)) (by decide +kernel)
theorem wf_X9_47 : Cond.fieldLink RX9 47 RX9 "sights" "LMorningBite$Sights;" ∈ jW := jW_mem (jtb 261 (by decide +kernel)) (by decide +kernel)
theorem wf_X9_54 : Cond.fieldLink RX9 54 RX9 "trialYear" "LMorningBite$Year;" ∈ jW := jW_mem (jtb 262 (by decide +kernel)) (by decide +kernel)
theorem wf_X9_60 : Cond.fieldLink RX9 60 RX9 "images" "[LMorningBite$Image;" ∈ jW := jW_mem (jtb 263 (by decide +kernel)) (by decide +kernel)
theorem wf_X9_85 : Cond.fieldLinkNest RX9 85 RX1 "basket" "I" "MorningBite" ∈ jNW := jNW_mem (jtb 45 (by decide +kernel)) (by decide +kernel)
theorem wf_X9_89 : Cond.fieldLinkNest RX9 89 RX1 "grown" "I" "MorningBite" ∈ jNW := jNW_mem (jtb 48 (by decide +kernel)) (by decide +kernel)
theorem wf_X9_92 : Cond.fieldLinkNest RX9 92 RX1 "she" "I" "MorningBite" ∈ jNW := jNW_mem (jtb 50 (by decide +kernel)) (by decide +kernel)
theorem wf_X9_98 : Cond.fieldLinkNest RX9 98 RX4 "size" "I" "MorningBite" ∈ jNW := jNW_mem (jtb 83 (by decide +kernel)) (by decide +kernel)
theorem wf_X9_107 : Cond.fieldLinkNest RX9 107 RX0 "mornings" "I" "MorningBite" ∈ jNW := jNW_mem (jtb 114 (by decide +kernel)) (by decide +kernel)
theorem wf_X9_110 : Cond.fieldLinkNest RX9 110 RX0 "badAct" "I" "MorningBite" ∈ jNW := jNW_mem (jtb 116 (by decide +kernel)) (by decide +kernel)
theorem wf_X9_113 : Cond.fieldLinkNest RX9 113 RX0 "badWhy" "I" "MorningBite" ∈ jNW := jNW_mem (jtb 118 (by decide +kernel)) (by decide +kernel)
theorem wf_X9_116 : Cond.fieldLinkNest RX9 116 RX0 "end" "LMorningBite$Hill;" "MorningBite" ∈ jNW := jNW_mem (jtb 109 (by decide +kernel)) (by decide +kernel)
theorem wf_X9_119 : Cond.fieldLinkNest RX9 119 RX1 "looks" "[I" "MorningBite" ∈ jNW := jNW_mem (jtb 35 (by decide +kernel)) (by decide +kernel)
theorem wf_X9_123 : Cond.fieldLinkNest RX9 123 RX1 "eaten" "[I" "MorningBite" ∈ jNW := jNW_mem (jtb 42 (by decide +kernel)) (by decide +kernel)
theorem wf_X9_126 : Cond.fieldLinkNest RX9 126 RX0 "passMorning" "I" "MorningBite" ∈ jNW := jNW_mem (jtb 120 (by decide +kernel)) (by decide +kernel)
theorem wf_X9_129 : Cond.fieldLinkNest RX9 129 RX0 "passPair" "I" "MorningBite" ∈ jNW := jNW_mem (jtb 122 (by decide +kernel)) (by decide +kernel)
theorem wf_X9_132 : Cond.fieldLinkNest RX9 132 RX0 "oldestAt" "[I" "MorningBite" ∈ jNW := jNW_mem (jtb 112 (by decide +kernel)) (by decide +kernel)
theorem wf_X9_139 : Cond.fieldLinkNest RX9 139 RX4 "acts" "I" "MorningBite" ∈ jNW := jNW_mem (jtb 86 (by decide +kernel)) (by decide +kernel)
theorem wf_X9_142 : Cond.fieldLinkNest RX9 142 RX1 "pace" "[I" "MorningBite" ∈ jNW := jNW_mem (jtb 38 (by decide +kernel)) (by decide +kernel)
theorem wf_X9_161 : Cond.fieldLinkNest RX9 161 RX5 "count" "I" "MorningBite" ∈ jNW := jNW_mem (jtb 190 (by decide +kernel)) (by decide +kernel)
theorem wf_X9_164 : Cond.fieldLinkNest RX9 164 RX5 "first" "I" "MorningBite" ∈ jNW := jNW_mem (jtb 192 (by decide +kernel)) (by decide +kernel)
theorem wf_X9_172 : Cond.fieldLinkNest RX9 172 RX1 "youth" "[I" "MorningBite" ∈ jNW := jNW_mem (jtb 40 (by decide +kernel)) (by decide +kernel)
theorem wf_X9_181 : Cond.fieldLinkNest RX9 181 RX6 "count" "I" "MorningBite" ∈ jNW := jNW_mem (jtb 209 (by decide +kernel)) (by decide +kernel)
theorem wf_X9_219 : Cond.fieldLinkNest RX9 219 RX8 "end" "LMorningBite$Hill;" "MorningBite" ∈ jNW := jNW_mem (jtb 226 (by decide +kernel)) (by decide +kernel)
theorem wf_X9_226 : Cond.fieldLinkNest RX9 226 RX8 "mornings" "I" "MorningBite" ∈ jNW := jNW_mem (jtb 228 (by decide +kernel)) (by decide +kernel)
theorem wf_X9_231 : Cond.fieldLinkNest RX9 231 RX2 "kept" "Z" "MorningBite" ∈ jNW := jNW_mem (jtb 248 (by decide +kernel)) (by decide +kernel)
theorem wf_X9_238 : Cond.fieldLinkNest RX9 238 RX1 "there" "I" "MorningBite" ∈ jNW := jNW_mem (jtb 44 (by decide +kernel)) (by decide +kernel)
theorem wm_X0_27 : Cond.methodLink RX0 27 yX1_takeOver ∈ jW := jW_mem (jtb 358 (by decide +kernel)) (by decide +kernel)
theorem wm_X0_59 : Cond.methodLink RX0 59 yX1_whyNot ∈ jW := jW_mem (jtb 365 (by decide +kernel)) (by decide +kernel)
theorem wm_X0_66 : Cond.methodLink RX0 66 arraycopyName ∈ jW := jW_mem (jtb 376 (by decide +kernel)) (by decide +kernel)
theorem wm_X0_72 : Cond.methodLink RX0 72 yX1_act ∈ jW := jW_mem (jtb 377 (by decide +kernel)) (by decide +kernel)
theorem wm_X0_76 : Cond.methodLink RX0 76 yX0_tellMorning ∈ jW := jW_mem (jtb 397 (by decide +kernel)) (by decide +kernel)
theorem wm_X0_79 : Cond.methodLink RX0 79 yX0_leastPass ∈ jW := jW_mem (jtb 401 (by decide +kernel)) (by decide +kernel)
theorem wm_X0_83 : Cond.methodLink RX0 83 yX1_oldestOne ∈ jW := jW_mem (jtb 413 (by decide +kernel)) (by decide +kernel)
theorem wm_X0_86 : Cond.methodLink RX0 86 yX1_has ∈ jW := jW_mem (jtb 405 (by decide +kernel)) (by decide +kernel)
theorem wm_X0_90 : Cond.methodLink RX0 90 yX0_hasPassed ∈ jW := jW_mem (jtb 406 (by decide +kernel)) (by decide +kernel)
theorem wm_X0_94 : Cond.methodLink RX0 94 yJ6_compare_7cf53 ∈ jW := jW_mem (jtb 410 (by decide +kernel)) (by decide +kernel)
theorem wm_X1_34 : Cond.methodLink RX1 34 yJ6_bitCount_0f7a4 ∈ jW := jW_mem (jtb 296 (by decide +kernel)) (by decide +kernel)
theorem wm_X1_40 : Cond.methodLink RX1 40 yX1_has ∈ jW := jW_mem (jtb 314 (by decide +kernel)) (by decide +kernel)
theorem wm_X1_44 : Cond.methodLink RX1 44 arraycopyName ∈ jW := jW_mem (jtb 362 (by decide +kernel)) (by decide +kernel)
theorem wm_X1_53 : Cond.methodLink RX1 53 yX1_whyNotGive ∈ jW := jW_mem (jtb 369 (by decide +kernel)) (by decide +kernel)
theorem wm_X1_57 : Cond.methodLink RX1 57 yX1_halvesOf ∈ jW := jW_mem (jtb 373 (by decide +kernel)) (by decide +kernel)
theorem wm_X1_60 : Cond.methodLink RX1 60 yX1_whyNot ∈ jW := jW_mem (jtb 381 (by decide +kernel)) (by decide +kernel)
theorem wm_X1_64 : Cond.methodLink RX1 64 yX1_wake ∈ jW := jW_mem (jtb 382 (by decide +kernel)) (by decide +kernel)
theorem wm_X1_67 : Cond.methodLink RX1 67 yX1_drop ∈ jW := jW_mem (jtb 396 (by decide +kernel)) (by decide +kernel)
theorem wm_X1_71 : Cond.methodLink RX1 71 yX1_aged ∈ jW := jW_mem (jtb 386 (by decide +kernel)) (by decide +kernel)
theorem wm_X1_74 : Cond.methodLink RX1 74 yJ9_min_7cf53 ∈ jW := jW_mem (jtb 390 (by decide +kernel)) (by decide +kernel)
theorem wm_X1_79 : Cond.methodLink RX1 79 yJ9_max_7cf53 ∈ jW := jW_mem (jtb 393 (by decide +kernel)) (by decide +kernel)
theorem wm_X10_94 : Cond.methodLink RX10 94 yX10_in ∈ jW := jW_mem (jtb 789 (by decide +kernel)) (by decide +kernel)
theorem wm_X10_105 : Cond.methodLink RX10 105 yX10_ones ∈ jW := jW_mem (jtb 794 (by decide +kernel)) (by decide +kernel)
theorem wm_X10_109 : Cond.methodLink RX10 109 yX10_isOne ∈ jW := jW_mem (jtb 801 (by decide +kernel)) (by decide +kernel)
theorem wm_X10_134 : Cond.methodLink RX10 134 yX10_isLetter ∈ jW := jW_mem (jtb 829 (by decide +kernel)) (by decide +kernel)
theorem wm_X10_137 : Cond.methodLink RX10 137 yX10_close ∈ jW := jW_mem (jtb 834 (by decide +kernel)) (by decide +kernel)
theorem wm_X10_141 : Cond.methodLink RX10 141 yX10_readOn ∈ jW := jW_mem (jtb 825 (by decide +kernel)) (by decide +kernel)
theorem wm_X10_144 : Cond.methodLink RX10 144 yX10_whyNotGive ∈ jW := jW_mem (jtb 863 (by decide +kernel)) (by decide +kernel)
theorem wm_X10_147 : Cond.methodLink RX10 147 yX10_lookBehind ∈ jW := jW_mem (jtb 879 (by decide +kernel)) (by decide +kernel)
theorem wm_X10_151 : Cond.methodLink RX10 151 yX10_passing ∈ jW := jW_mem (jtb 883 (by decide +kernel)) (by decide +kernel)
theorem wm_X10_164 : Cond.methodLink RX10 164 yX10_oldestNow ∈ jW := jW_mem (jtb 887 (by decide +kernel)) (by decide +kernel)
theorem wm_X10_167 : Cond.methodLink RX10 167 yX10_eat ∈ jW := jW_mem (jtb 871 (by decide +kernel)) (by decide +kernel)
theorem wm_X10_171 : Cond.methodLink RX10 171 yX10_passMorning ∈ jW := jW_mem (jtb 875 (by decide +kernel)) (by decide +kernel)
theorem wm_X10_174 : Cond.methodLink RX10 174 yX10_beginCount ∈ jW := jW_mem (jtb 855 (by decide +kernel)) (by decide +kernel)
theorem wm_X10_183 : Cond.methodLink RX10 183 yX10_whyNot ∈ jW := jW_mem (jtb 859 (by decide +kernel)) (by decide +kernel)
theorem wm_X10_186 : Cond.methodLink RX10 186 yX10_happen ∈ jW := jW_mem (jtb 867 (by decide +kernel)) (by decide +kernel)
theorem wm_X10_190 : Cond.methodLink RX10 190 yX10_keepNow ∈ jW := jW_mem (jtb 846 (by decide +kernel)) (by decide +kernel)
theorem wm_X10_193 : Cond.methodLink RX10 193 yX10_fault ∈ jW := jW_mem (jtb 850 (by decide +kernel)) (by decide +kernel)
theorem wm_X10_196 : Cond.methodLink RX10 196 yX10_goDays ∈ jW := jW_mem (jtb 851 (by decide +kernel)) (by decide +kernel)
theorem wm_X10_199 : Cond.methodLink RX10 199 yX10_refusal ∈ jW := jW_mem (jtb 842 (by decide +kernel)) (by decide +kernel)
theorem wm_X10_202 : Cond.methodLink RX10 202 yX10_back ∈ jW := jW_mem (jtb 891 (by decide +kernel)) (by decide +kernel)
theorem wm_X10_205 : Cond.methodLink RX10 205 yX10_layAgeThen ∈ jW := jW_mem (jtb 937 (by decide +kernel)) (by decide +kernel)
theorem wm_X10_209 : Cond.methodLink RX10 209 yX10_ageAt ∈ jW := jW_mem (jtb 941 (by decide +kernel)) (by decide +kernel)
theorem wm_X10_212 : Cond.methodLink RX10 212 yX10_stateOf ∈ jW := jW_mem (jtb 964 (by decide +kernel)) (by decide +kernel)
theorem wm_X10_215 : Cond.methodLink RX10 215 yX10_halvesOf ∈ jW := jW_mem (jtb 957 (by decide +kernel)) (by decide +kernel)
theorem wm_X10_218 : Cond.methodLink RX10 218 yX10_thenOf ∈ jW := jW_mem (jtb 960 (by decide +kernel)) (by decide +kernel)
theorem wm_X10_222 : Cond.methodLink RX10 222 yX10_manyAt ∈ jW := jW_mem (jtb 949 (by decide +kernel)) (by decide +kernel)
theorem wm_X10_225 : Cond.methodLink RX10 225 yX10_halvesBy ∈ jW := jW_mem (jtb 953 (by decide +kernel)) (by decide +kernel)
theorem wm_X10_229 : Cond.methodLink RX10 229 yX10_layAges ∈ jW := jW_mem (jtb 933 (by decide +kernel)) (by decide +kernel)
theorem wm_X10_232 : Cond.methodLink RX10 232 yX10_layHalves ∈ jW := jW_mem (jtb 945 (by decide +kernel)) (by decide +kernel)
theorem wm_X10_239 : Cond.methodLink RX10 239 yX10_planRefusal ∈ jW := jW_mem (jtb 923 (by decide +kernel)) (by decide +kernel)
theorem wm_X10_242 : Cond.methodLink RX10 242 yX10_findPlan ∈ jW := jW_mem (jtb 929 (by decide +kernel)) (by decide +kernel)
theorem wm_X10_245 : Cond.methodLink RX10 245 yX10_firstHow ∈ jW := jW_mem (jtb 971 (by decide +kernel)) (by decide +kernel)
theorem wm_X10_248 : Cond.methodLink RX10 248 yX10_isEnvyless ∈ jW := jW_mem (jtb 984 (by decide +kernel)) (by decide +kernel)
theorem wm_X10_254 : Cond.methodLink RX10 254 yX10_shareOf ∈ jW := jW_mem (jtb 980 (by decide +kernel)) (by decide +kernel)
theorem wm_X10_262 : Cond.methodLink RX10 262 yX10_lookedBy ∈ jW := jW_mem (jtb 1013 (by decide +kernel)) (by decide +kernel)
theorem wm_X10_265 : Cond.methodLink RX10 265 yX10_fits ∈ jW := jW_mem (jtb 1009 (by decide +kernel)) (by decide +kernel)
theorem wm_X10_268 : Cond.methodLink RX10 268 yX10_givers ∈ jW := jW_mem (jtb 1005 (by decide +kernel)) (by decide +kernel)
theorem wm_X10_271 : Cond.methodLink RX10 271 yX10_mostAlike ∈ jW := jW_mem (jtb 1021 (by decide +kernel)) (by decide +kernel)
theorem wm_X10_282 : Cond.methodLink RX10 282 yX10_wormyDay ∈ jW := jW_mem (jtb 1037 (by decide +kernel)) (by decide +kernel)
theorem wm_X10_285 : Cond.methodLink RX10 285 yX10_lowest ∈ jW := jW_mem (jtb 1041 (by decide +kernel)) (by decide +kernel)
theorem wm_X10_304 : Cond.methodLink RX10 304 yX10_pass ∈ jW := jW_mem (jtb 1060 (by decide +kernel)) (by decide +kernel)
theorem wm_X10_307 : Cond.methodLink RX10 307 yX10_passAll ∈ jW := jW_mem (jtb 1056 (by decide +kernel)) (by decide +kernel)
theorem wm_X10_312 : Cond.methodLink RX10 312 yX10_toldOf ∈ jW := jW_mem (jtb 1073 (by decide +kernel)) (by decide +kernel)
theorem wm_X2_23 : Cond.methodLink RX2 23 yX1_takeOver ∈ jW := jW_mem (jtb 638 (by decide +kernel)) (by decide +kernel)
theorem wm_X2_27 : Cond.methodLink RX2 27 yX6_takeOver ∈ jW := jW_mem (jtb 639 (by decide +kernel)) (by decide +kernel)
theorem wm_X3_35 : Cond.methodLink RX3 35 yJ9_min_7cf53 ∈ jW := jW_mem (jtb 455 (by decide +kernel)) (by decide +kernel)
theorem wm_X3_41 : Cond.methodLink RX3 41 yJ9_max_7cf53 ∈ jW := jW_mem (jtb 456 (by decide +kernel)) (by decide +kernel)
theorem wm_X3_54 : Cond.methodLink RX3 54 yX3_seat ∈ jW := jW_mem (jtb 457 (by decide +kernel)) (by decide +kernel)
theorem wm_X3_58 : Cond.methodLink RX3 58 yX3_listAges ∈ jW := jW_mem (jtb 462 (by decide +kernel)) (by decide +kernel)
theorem wm_X3_62 : Cond.methodLink RX3 62 yX3_countDay ∈ jW := jW_mem (jtb 479 (by decide +kernel)) (by decide +kernel)
theorem wm_X3_66 : Cond.methodLink RX3 66 yX3_fewestFrom ∈ jW := jW_mem (jtb 495 (by decide +kernel)) (by decide +kernel)
theorem wm_X3_70 : Cond.methodLink RX3 70 yX1_has ∈ jW := jW_mem (jtb 461 (by decide +kernel)) (by decide +kernel)
theorem wm_X3_79 : Cond.methodLink RX3 79 yX3_listNext ∈ jW := jW_mem (jtb 466 (by decide +kernel)) (by decide +kernel)
theorem wm_X3_83 : Cond.methodLink RX3 83 yX3_lastsRest ∈ jW := jW_mem (jtb 470 (by decide +kernel)) (by decide +kernel)
theorem wm_X3_87 : Cond.methodLink RX3 87 yX1_aged ∈ jW := jW_mem (jtb 474 (by decide +kernel)) (by decide +kernel)
theorem wm_X3_91 : Cond.methodLink RX3 91 yX3_findAge ∈ jW := jW_mem (jtb 475 (by decide +kernel)) (by decide +kernel)
theorem wm_X3_97 : Cond.methodLink RX3 97 yX3_countOf ∈ jW := jW_mem (jtb 483 (by decide +kernel)) (by decide +kernel)
theorem wm_X3_100 : Cond.methodLink RX3 100 yX3_bestMeals ∈ jW := jW_mem (jtb 487 (by decide +kernel)) (by decide +kernel)
theorem wm_X3_106 : Cond.methodLink RX3 106 yX3_next ∈ jW := jW_mem (jtb 491 (by decide +kernel)) (by decide +kernel)
theorem wm_X3_109 : Cond.methodLink RX3 109 yX3_walk ∈ jW := jW_mem (jtb 507 (by decide +kernel)) (by decide +kernel)
theorem wm_X4_31 : Cond.methodLink RX4 31 yX4_isLetter ∈ jW := jW_mem (jtb 339 (by decide +kernel)) (by decide +kernel)
theorem wm_X4_35 : Cond.methodLink RX4 35 yX4_addAct ∈ jW := jW_mem (jtb 342 (by decide +kernel)) (by decide +kernel)
theorem wm_X5_22 : Cond.methodLink RX5 22 yX5_share ∈ jW := jW_mem (jtb 519 (by decide +kernel)) (by decide +kernel)
theorem wm_X5_26 : Cond.methodLink RX5 26 yX5_addShare ∈ jW := jW_mem (jtb 523 (by decide +kernel)) (by decide +kernel)
theorem wm_X5_30 : Cond.methodLink RX5 30 yX1_has ∈ jW := jW_mem (jtb 527 (by decide +kernel)) (by decide +kernel)
theorem wm_X5_39 : Cond.methodLink RX5 39 yX1_aged ∈ jW := jW_mem (jtb 528 (by decide +kernel)) (by decide +kernel)
theorem wm_X5_43 : Cond.methodLink RX5 43 yX5_envies ∈ jW := jW_mem (jtb 529 (by decide +kernel)) (by decide +kernel)
theorem wm_X5_47 : Cond.methodLink RX5 47 yX5_wronged ∈ jW := jW_mem (jtb 533 (by decide +kernel)) (by decide +kernel)
theorem wm_X6_22 : Cond.methodLink RX6 22 arraycopyName ∈ jW := jW_mem (jtb 643 (by decide +kernel)) (by decide +kernel)
theorem wm_X6_28 : Cond.methodLink RX6 28 yX1_has ∈ jW := jW_mem (jtb 563 (by decide +kernel)) (by decide +kernel)
theorem wm_X6_34 : Cond.methodLink RX6 34 yX6_fits ∈ jW := jW_mem (jtb 564 (by decide +kernel)) (by decide +kernel)
theorem wm_X6_38 : Cond.methodLink RX6 38 yX6_looksBehind ∈ jW := jW_mem (jtb 568 (by decide +kernel)) (by decide +kernel)
theorem wm_X6_42 : Cond.methodLink RX6 42 yJ6_bitCount_0f7a4 ∈ jW := jW_mem (jtb 579 (by decide +kernel)) (by decide +kernel)
theorem wm_X6_48 : Cond.methodLink RX6 48 yJ9_max_7cf53 ∈ jW := jW_mem (jtb 580 (by decide +kernel)) (by decide +kernel)
theorem wm_X6_57 : Cond.methodLink RX6 57 yX1_aged ∈ jW := jW_mem (jtb 571 (by decide +kernel)) (by decide +kernel)
theorem wm_X7_9 : Cond.methodLink RX7 9 yX7_looksBehind ∈ jW := jW_mem (jtb 594 (by decide +kernel)) (by decide +kernel)
theorem wm_X7_15 : Cond.methodLink RX7 15 yJ6_bitCount_0f7a4 ∈ jW := jW_mem (jtb 599 (by decide +kernel)) (by decide +kernel)
theorem wm_X7_21 : Cond.methodLink RX7 21 yX7_power ∈ jW := jW_mem (jtb 600 (by decide +kernel)) (by decide +kernel)
theorem wm_X7_25 : Cond.methodLink RX7 25 yX1_has ∈ jW := jW_mem (jtb 597 (by decide +kernel)) (by decide +kernel)
theorem wm_X7_35 : Cond.methodLink RX7 35 yX1_aged ∈ jW := jW_mem (jtb 598 (by decide +kernel)) (by decide +kernel)
theorem wm_X7_39 : Cond.methodLink RX7 39 yJ9_max_f86c9 ∈ jW := jW_mem (jtb 608 (by decide +kernel)) (by decide +kernel)
theorem wm_X8_18 : Cond.methodLink RX8 18 yX1_takeOver ∈ jW := jW_mem (jtb 619 (by decide +kernel)) (by decide +kernel)
theorem wm_X8_27 : Cond.methodLink RX8 27 yX8_kindOf ∈ jW := jW_mem (jtb 621 (by decide +kernel)) (by decide +kernel)
theorem wm_X8_31 : Cond.methodLink RX8 31 yX1_act ∈ jW := jW_mem (jtb 624 (by decide +kernel)) (by decide +kernel)
theorem wm_X9_65 : Cond.methodLink RX9 65 yX9_within ∈ jW := jW_mem (jtb 285 (by decide +kernel)) (by decide +kernel)
theorem wm_X9_69 : Cond.methodLink RX9 69 yX1_settle ∈ jW := jW_mem (jtb 288 (by decide +kernel)) (by decide +kernel)
theorem wm_X9_73 : Cond.methodLink RX9 73 yX1_people ∈ jW := jW_mem (jtb 292 (by decide +kernel)) (by decide +kernel)
theorem wm_X9_77 : Cond.methodLink RX9 77 yX1_has ∈ jW := jW_mem (jtb 306 (by decide +kernel)) (by decide +kernel)
theorem wm_X9_81 : Cond.methodLink RX9 81 yX1_drop ∈ jW := jW_mem (jtb 310 (by decide +kernel)) (by decide +kernel)
theorem wm_X9_95 : Cond.methodLink RX9 95 yX4_add ∈ jW := jW_mem (jtb 323 (by decide +kernel)) (by decide +kernel)
theorem wm_X9_101 : Cond.methodLink RX9 101 yX4_read ∈ jW := jW_mem (jtb 335 (by decide +kernel)) (by decide +kernel)
theorem wm_X9_104 : Cond.methodLink RX9 104 yX9_liveDays ∈ jW := jW_mem (jtb 350 (by decide +kernel)) (by decide +kernel)
theorem wm_X9_135 : Cond.methodLink RX9 135 yX1_takeOver ∈ jW := jW_mem (jtb 437 (by decide +kernel)) (by decide +kernel)
theorem wm_X9_145 : Cond.methodLink RX9 145 yX9_refuseKeeping ∈ jW := jW_mem (jtb 446 (by decide +kernel)) (by decide +kernel)
theorem wm_X9_149 : Cond.methodLink RX9 149 yX3_solve ∈ jW := jW_mem (jtb 451 (by decide +kernel)) (by decide +kernel)
theorem wm_X9_153 : Cond.methodLink RX9 153 yX3_eats ∈ jW := jW_mem (jtb 503 (by decide +kernel)) (by decide +kernel)
theorem wm_X9_157 : Cond.methodLink RX9 157 yX5_weigh ∈ jW := jW_mem (jtb 515 (by decide +kernel)) (by decide +kernel)
theorem wm_X9_167 : Cond.methodLink RX9 167 yJ9_min_7cf53 ∈ jW := jW_mem (jtb 541 (by decide +kernel)) (by decide +kernel)
theorem wm_X9_175 : Cond.methodLink RX9 175 yJ9_max_7cf53 ∈ jW := jW_mem (jtb 542 (by decide +kernel)) (by decide +kernel)
theorem wm_X9_178 : Cond.methodLink RX9 178 yX6_add ∈ jW := jW_mem (jtb 547 (by decide +kernel)) (by decide +kernel)
theorem wm_X9_182 : Cond.methodLink RX9 182 yX6_givers ∈ jW := jW_mem (jtb 559 (by decide +kernel)) (by decide +kernel)
theorem wm_X9_186 : Cond.methodLink RX9 186 yJ6_bitCount_0f7a4 ∈ jW := jW_mem (jtb 450 (by decide +kernel)) (by decide +kernel)
theorem wm_X9_192 : Cond.methodLink RX9 192 yX6_leftAtMost ∈ jW := jW_mem (jtb 576 (by decide +kernel)) (by decide +kernel)
theorem wm_X9_200 : Cond.methodLink RX9 200 yX7_weigh ∈ jW := jW_mem (jtb 591 (by decide +kernel)) (by decide +kernel)
theorem wm_X9_207 : Cond.methodLink RX9 207 yX7_power ∈ jW := jW_mem (jtb 604 (by decide +kernel)) (by decide +kernel)
theorem wm_X9_211 : Cond.methodLink RX9 211 yX7_commonDivisor ∈ jW := jW_mem (jtb 605 (by decide +kernel)) (by decide +kernel)
theorem wm_X9_215 : Cond.methodLink RX9 215 yX8_live ∈ jW := jW_mem (jtb 615 (by decide +kernel)) (by decide +kernel)
theorem wm_X9_220 : Cond.methodLink RX9 220 yX1_looksTogether ∈ jW := jW_mem (jtb 625 (by decide +kernel)) (by decide +kernel)
theorem wm_X9_223 : Cond.methodLink RX9 223 yX1_oldestOne ∈ jW := jW_mem (jtb 629 (by decide +kernel)) (by decide +kernel)
theorem wm_X9_227 : Cond.methodLink RX9 227 yX2_keep ∈ jW := jW_mem (jtb 634 (by decide +kernel)) (by decide +kernel)
theorem wm_X9_235 : Cond.methodLink RX9 235 yX2_giveBack ∈ jW := jW_mem (jtb 648 (by decide +kernel)) (by decide +kernel)
theorem wm_X9_241 : Cond.methodLink RX9 241 yX9_toldOf ∈ jW := jW_mem (jtb 656 (by decide +kernel)) (by decide +kernel)
theorem wm_X9_244 : Cond.methodLink RX9 244 yX0_live ∈ jW := jW_mem (jtb 354 (by decide +kernel)) (by decide +kernel)
theorem wac_1 : Cond.native arraycopyName ∈ jW := jW_mem (jtb 364 (by decide +kernel)) (by decide +kernel)
theorem wac_2 : Cond.static arraycopyName ∈ jW := jW_mem (jtb 363 (by decide +kernel)) (by decide +kernel)
theorem wac_3 : Cond.initialized "java/lang/System" ∈ jW := jW_mem (jtb 12 (by decide +kernel)) (by decide +kernel)
end
section
theorem dX1_init_0 : decode cX1_init 0 = .ok (.aload_n 0, 1) := by decide +kernel
theorem dX1_init_1 : decode cX1_init 1 = .ok (.invokespecial 3, 3) := by decide +kernel
theorem dX1_init_4 : decode cX1_init 4 = .ok (.aload_n 0, 1) := by decide +kernel
theorem dX1_init_5 : decode cX1_init 5 = .ok (.bipush 6, 2) := by decide +kernel
theorem dX1_init_7 : decode cX1_init 7 = .ok (.newarray .int, 2) := by decide +kernel
theorem dX1_init_9 : decode cX1_init 9 = .ok (.putfield 9, 3) := by decide +kernel
theorem dX1_init_12 : decode cX1_init 12 = .ok (.aload_n 0, 1) := by decide +kernel
theorem dX1_init_13 : decode cX1_init 13 = .ok (.bipush 6, 2) := by decide +kernel
theorem dX1_init_15 : decode cX1_init 15 = .ok (.newarray .int, 2) := by decide +kernel
theorem dX1_init_17 : decode cX1_init 17 = .ok (.putfield 15, 3) := by decide +kernel
theorem dX1_init_20 : decode cX1_init 20 = .ok (.aload_n 0, 1) := by decide +kernel
theorem dX1_init_21 : decode cX1_init 21 = .ok (.bipush 6, 2) := by decide +kernel
theorem dX1_init_23 : decode cX1_init 23 = .ok (.newarray .int, 2) := by decide +kernel
theorem dX1_init_25 : decode cX1_init 25 = .ok (.putfield 18, 3) := by decide +kernel
theorem dX1_init_28 : decode cX1_init 28 = .ok (.aload_n 0, 1) := by decide +kernel
theorem dX1_init_29 : decode cX1_init 29 = .ok (.bipush 6, 2) := by decide +kernel
theorem dX1_init_31 : decode cX1_init 31 = .ok (.newarray .int, 2) := by decide +kernel
theorem dX1_init_33 : decode cX1_init 33 = .ok (.putfield 21, 3) := by decide +kernel
theorem dX1_init_36 : decode cX1_init 36 = .ok (.aload_n 0, 1) := by decide +kernel
theorem dX1_init_37 : decode cX1_init 37 = .ok (.bipush 12, 2) := by decide +kernel
theorem dX1_init_39 : decode cX1_init 39 = .ok (.putfield 24, 3) := by decide +kernel
theorem dX1_init_42 : decode cX1_init 42 = .ok (.aload_n 0, 1) := by decide +kernel
theorem dX1_init_43 : decode cX1_init 43 = .ok (.iconst 1, 1) := by decide +kernel
theorem dX1_init_44 : decode cX1_init 44 = .ok (.putfield 28, 3) := by decide +kernel
theorem dX1_init_47 : decode cX1_init 47 = .ok (.return_, 1) := by decide +kernel
theorem dX1_has_0 : decode cX1_has 0 = .ok (.iload_n 1, 1) := by decide +kernel
theorem dX1_has_1 : decode cX1_has 1 = .ok (.ifCond .lt 25, 3) := by decide +kernel
theorem dX1_has_4 : decode cX1_has 4 = .ok (.iload_n 1, 1) := by decide +kernel
theorem dX1_has_5 : decode cX1_has 5 = .ok (.bipush 6, 2) := by decide +kernel
theorem dX1_has_7 : decode cX1_has 7 = .ok (.if_icmp .ge 19, 3) := by decide +kernel
theorem dX1_has_10 : decode cX1_has 10 = .ok (.aload_n 0, 1) := by decide +kernel
theorem dX1_has_11 : decode cX1_has 11 = .ok (.getfield 31, 3) := by decide +kernel
theorem dX1_has_14 : decode cX1_has 14 = .ok (.iload_n 1, 1) := by decide +kernel
theorem dX1_has_15 : decode cX1_has 15 = .ok (.ishr, 1) := by decide +kernel
theorem dX1_has_16 : decode cX1_has 16 = .ok (.iconst 1, 1) := by decide +kernel
theorem dX1_has_17 : decode cX1_has 17 = .ok (.iand, 1) := by decide +kernel
theorem dX1_has_18 : decode cX1_has 18 = .ok (.iconst 1, 1) := by decide +kernel
theorem dX1_has_19 : decode cX1_has 19 = .ok (.if_icmp .ne 7, 3) := by decide +kernel
theorem dX1_has_22 : decode cX1_has 22 = .ok (.iconst 1, 1) := by decide +kernel
theorem dX1_has_23 : decode cX1_has 23 = .ok (.goto 4, 3) := by decide +kernel
theorem dX1_has_26 : decode cX1_has 26 = .ok (.iconst 0, 1) := by decide +kernel
theorem dX1_has_27 : decode cX1_has 27 = .ok (.ireturn, 1) := by decide +kernel
theorem dX1_people_0 : decode cX1_people 0 = .ok (.aload_n 0, 1) := by decide +kernel
theorem dX1_people_1 : decode cX1_people 1 = .ok (.getfield 31, 3) := by decide +kernel
theorem dX1_people_4 : decode cX1_people 4 = .ok (.invokestatic 34, 3) := by decide +kernel
theorem dX1_people_7 : decode cX1_people 7 = .ok (.ireturn, 1) := by decide +kernel
theorem dX1_settle_0 : decode cX1_settle 0 = .ok (.iload_n 1, 1) := by decide +kernel
theorem dX1_settle_1 : decode cX1_settle 1 = .ok (.ifCond .lt 9, 3) := by decide +kernel
theorem dX1_settle_4 : decode cX1_settle 4 = .ok (.iload_n 1, 1) := by decide +kernel
theorem dX1_settle_5 : decode cX1_settle 5 = .ok (.bipush 6, 2) := by decide +kernel
theorem dX1_settle_7 : decode cX1_settle 7 = .ok (.if_icmp .lt 4, 3) := by decide +kernel
theorem dX1_settle_10 : decode cX1_settle 10 = .ok (.return_, 1) := by decide +kernel
theorem dX1_settle_11 : decode cX1_settle 11 = .ok (.aload_n 0, 1) := by decide +kernel
theorem dX1_settle_12 : decode cX1_settle 12 = .ok (.dup, 1) := by decide +kernel
theorem dX1_settle_13 : decode cX1_settle 13 = .ok (.getfield 31, 3) := by decide +kernel
theorem dX1_settle_16 : decode cX1_settle 16 = .ok (.iconst 1, 1) := by decide +kernel
theorem dX1_settle_17 : decode cX1_settle 17 = .ok (.iload_n 1, 1) := by decide +kernel
theorem dX1_settle_18 : decode cX1_settle 18 = .ok (.ishl, 1) := by decide +kernel
theorem dX1_settle_19 : decode cX1_settle 19 = .ok (.ior, 1) := by decide +kernel
theorem dX1_settle_20 : decode cX1_settle 20 = .ok (.putfield 31, 3) := by decide +kernel
theorem dX1_settle_23 : decode cX1_settle 23 = .ok (.aload_n 0, 1) := by decide +kernel
theorem dX1_settle_24 : decode cX1_settle 24 = .ok (.getfield 9, 3) := by decide +kernel
theorem dX1_settle_27 : decode cX1_settle 27 = .ok (.iload_n 1, 1) := by decide +kernel
theorem dX1_settle_28 : decode cX1_settle 28 = .ok (.iload_n 2, 1) := by decide +kernel
theorem dX1_settle_29 : decode cX1_settle 29 = .ok (.iastore, 1) := by decide +kernel
theorem dX1_settle_30 : decode cX1_settle 30 = .ok (.aload_n 0, 1) := by decide +kernel
theorem dX1_settle_31 : decode cX1_settle 31 = .ok (.getfield 15, 3) := by decide +kernel
theorem dX1_settle_34 : decode cX1_settle 34 = .ok (.iload_n 1, 1) := by decide +kernel
theorem dX1_settle_35 : decode cX1_settle 35 = .ok (.iload_n 3, 1) := by decide +kernel
theorem dX1_settle_36 : decode cX1_settle 36 = .ok (.iastore, 1) := by decide +kernel
theorem dX1_settle_37 : decode cX1_settle 37 = .ok (.aload_n 0, 1) := by decide +kernel
theorem dX1_settle_38 : decode cX1_settle 38 = .ok (.getfield 18, 3) := by decide +kernel
theorem dX1_settle_41 : decode cX1_settle 41 = .ok (.iload_n 1, 1) := by decide +kernel
theorem dX1_settle_42 : decode cX1_settle 42 = .ok (.iload 4, 2) := by decide +kernel
theorem dX1_settle_44 : decode cX1_settle 44 = .ok (.iastore, 1) := by decide +kernel
theorem dX1_settle_45 : decode cX1_settle 45 = .ok (.aload_n 0, 1) := by decide +kernel
theorem dX1_settle_46 : decode cX1_settle 46 = .ok (.getfield 21, 3) := by decide +kernel
theorem dX1_settle_49 : decode cX1_settle 49 = .ok (.iload_n 1, 1) := by decide +kernel
theorem dX1_settle_50 : decode cX1_settle 50 = .ok (.iconst 0, 1) := by decide +kernel
theorem dX1_settle_51 : decode cX1_settle 51 = .ok (.iastore, 1) := by decide +kernel
theorem dX1_settle_52 : decode cX1_settle 52 = .ok (.return_, 1) := by decide +kernel
theorem dX1_drop_0 : decode cX1_drop 0 = .ok (.aload_n 0, 1) := by decide +kernel
theorem dX1_drop_1 : decode cX1_drop 1 = .ok (.iload_n 1, 1) := by decide +kernel
theorem dX1_drop_2 : decode cX1_drop 2 = .ok (.invokevirtual 40, 3) := by decide +kernel
theorem dX1_drop_5 : decode cX1_drop 5 = .ok (.ifCond .eq 17, 3) := by decide +kernel
theorem dX1_drop_8 : decode cX1_drop 8 = .ok (.aload_n 0, 1) := by decide +kernel
theorem dX1_drop_9 : decode cX1_drop 9 = .ok (.dup, 1) := by decide +kernel
theorem dX1_drop_10 : decode cX1_drop 10 = .ok (.getfield 31, 3) := by decide +kernel
theorem dX1_drop_13 : decode cX1_drop 13 = .ok (.iconst 1, 1) := by decide +kernel
theorem dX1_drop_14 : decode cX1_drop 14 = .ok (.iload_n 1, 1) := by decide +kernel
theorem dX1_drop_15 : decode cX1_drop 15 = .ok (.ishl, 1) := by decide +kernel
theorem dX1_drop_16 : decode cX1_drop 16 = .ok (.iconst (-1), 1) := by decide +kernel
theorem dX1_drop_17 : decode cX1_drop 17 = .ok (.ixor, 1) := by decide +kernel
theorem dX1_drop_18 : decode cX1_drop 18 = .ok (.iand, 1) := by decide +kernel
theorem dX1_drop_19 : decode cX1_drop 19 = .ok (.putfield 31, 3) := by decide +kernel
theorem dX1_drop_22 : decode cX1_drop 22 = .ok (.return_, 1) := by decide +kernel
theorem dX1_takeOver_0 : decode cX1_takeOver 0 = .ok (.aload_n 1, 1) := by decide +kernel
theorem dX1_takeOver_1 : decode cX1_takeOver 1 = .ok (.getfield 9, 3) := by decide +kernel
theorem dX1_takeOver_4 : decode cX1_takeOver 4 = .ok (.iconst 0, 1) := by decide +kernel
theorem dX1_takeOver_5 : decode cX1_takeOver 5 = .ok (.aload_n 0, 1) := by decide +kernel
theorem dX1_takeOver_6 : decode cX1_takeOver 6 = .ok (.getfield 9, 3) := by decide +kernel
theorem dX1_takeOver_9 : decode cX1_takeOver 9 = .ok (.iconst 0, 1) := by decide +kernel
theorem dX1_takeOver_10 : decode cX1_takeOver 10 = .ok (.bipush 6, 2) := by decide +kernel
theorem dX1_takeOver_12 : decode cX1_takeOver 12 = .ok (.invokestatic 44, 3) := by decide +kernel
theorem dX1_takeOver_15 : decode cX1_takeOver 15 = .ok (.aload_n 1, 1) := by decide +kernel
theorem dX1_takeOver_16 : decode cX1_takeOver 16 = .ok (.getfield 15, 3) := by decide +kernel
theorem dX1_takeOver_19 : decode cX1_takeOver 19 = .ok (.iconst 0, 1) := by decide +kernel
theorem dX1_takeOver_20 : decode cX1_takeOver 20 = .ok (.aload_n 0, 1) := by decide +kernel
theorem dX1_takeOver_21 : decode cX1_takeOver 21 = .ok (.getfield 15, 3) := by decide +kernel
theorem dX1_takeOver_24 : decode cX1_takeOver 24 = .ok (.iconst 0, 1) := by decide +kernel
theorem dX1_takeOver_25 : decode cX1_takeOver 25 = .ok (.bipush 6, 2) := by decide +kernel
theorem dX1_takeOver_27 : decode cX1_takeOver 27 = .ok (.invokestatic 44, 3) := by decide +kernel
theorem dX1_takeOver_30 : decode cX1_takeOver 30 = .ok (.aload_n 1, 1) := by decide +kernel
theorem dX1_takeOver_31 : decode cX1_takeOver 31 = .ok (.getfield 18, 3) := by decide +kernel
theorem dX1_takeOver_34 : decode cX1_takeOver 34 = .ok (.iconst 0, 1) := by decide +kernel
theorem dX1_takeOver_35 : decode cX1_takeOver 35 = .ok (.aload_n 0, 1) := by decide +kernel
theorem dX1_takeOver_36 : decode cX1_takeOver 36 = .ok (.getfield 18, 3) := by decide +kernel
theorem dX1_takeOver_39 : decode cX1_takeOver 39 = .ok (.iconst 0, 1) := by decide +kernel
theorem dX1_takeOver_40 : decode cX1_takeOver 40 = .ok (.bipush 6, 2) := by decide +kernel
theorem dX1_takeOver_42 : decode cX1_takeOver 42 = .ok (.invokestatic 44, 3) := by decide +kernel
theorem dX1_takeOver_45 : decode cX1_takeOver 45 = .ok (.aload_n 1, 1) := by decide +kernel
theorem dX1_takeOver_46 : decode cX1_takeOver 46 = .ok (.getfield 21, 3) := by decide +kernel
theorem dX1_takeOver_49 : decode cX1_takeOver 49 = .ok (.iconst 0, 1) := by decide +kernel
theorem dX1_takeOver_50 : decode cX1_takeOver 50 = .ok (.aload_n 0, 1) := by decide +kernel
theorem dX1_takeOver_51 : decode cX1_takeOver 51 = .ok (.getfield 21, 3) := by decide +kernel
theorem dX1_takeOver_54 : decode cX1_takeOver 54 = .ok (.iconst 0, 1) := by decide +kernel
theorem dX1_takeOver_55 : decode cX1_takeOver 55 = .ok (.bipush 6, 2) := by decide +kernel
theorem dX1_takeOver_57 : decode cX1_takeOver 57 = .ok (.invokestatic 44, 3) := by decide +kernel
theorem dX1_takeOver_60 : decode cX1_takeOver 60 = .ok (.aload_n 0, 1) := by decide +kernel
theorem dX1_takeOver_61 : decode cX1_takeOver 61 = .ok (.aload_n 1, 1) := by decide +kernel
theorem dX1_takeOver_62 : decode cX1_takeOver 62 = .ok (.getfield 31, 3) := by decide +kernel
theorem dX1_takeOver_65 : decode cX1_takeOver 65 = .ok (.putfield 31, 3) := by decide +kernel
theorem dX1_takeOver_68 : decode cX1_takeOver 68 = .ok (.aload_n 0, 1) := by decide +kernel
theorem dX1_takeOver_69 : decode cX1_takeOver 69 = .ok (.aload_n 1, 1) := by decide +kernel
theorem dX1_takeOver_70 : decode cX1_takeOver 70 = .ok (.getfield 50, 3) := by decide +kernel
theorem dX1_takeOver_73 : decode cX1_takeOver 73 = .ok (.putfield 50, 3) := by decide +kernel
theorem dX1_takeOver_76 : decode cX1_takeOver 76 = .ok (.aload_n 0, 1) := by decide +kernel
theorem dX1_takeOver_77 : decode cX1_takeOver 77 = .ok (.aload_n 1, 1) := by decide +kernel
theorem dX1_takeOver_78 : decode cX1_takeOver 78 = .ok (.getfield 24, 3) := by decide +kernel
theorem dX1_takeOver_81 : decode cX1_takeOver 81 = .ok (.putfield 24, 3) := by decide +kernel
theorem dX1_takeOver_84 : decode cX1_takeOver 84 = .ok (.aload_n 0, 1) := by decide +kernel
theorem dX1_takeOver_85 : decode cX1_takeOver 85 = .ok (.aload_n 1, 1) := by decide +kernel
theorem dX1_takeOver_86 : decode cX1_takeOver 86 = .ok (.getfield 28, 3) := by decide +kernel
theorem dX1_takeOver_89 : decode cX1_takeOver 89 = .ok (.putfield 28, 3) := by decide +kernel
theorem dX1_takeOver_92 : decode cX1_takeOver 92 = .ok (.return_, 1) := by decide +kernel
theorem dX1_whyNot_0 : decode cX1_whyNot 0 = .ok (.iload_n 1, 1) := by decide +kernel
theorem dX1_whyNot_1 : decode cX1_whyNot 1 = .ok (.bipush 33, 2) := by decide +kernel
theorem dX1_whyNot_3 : decode cX1_whyNot 3 = .ok (.if_icmp .eq 9, 3) := by decide +kernel
theorem dX1_whyNot_6 : decode cX1_whyNot 6 = .ok (.iload_n 1, 1) := by decide +kernel
theorem dX1_whyNot_7 : decode cX1_whyNot 7 = .ok (.bipush 46, 2) := by decide +kernel
theorem dX1_whyNot_9 : decode cX1_whyNot 9 = .ok (.if_icmp .ne 5, 3) := by decide +kernel
theorem dX1_whyNot_12 : decode cX1_whyNot 12 = .ok (.iconst 0, 1) := by decide +kernel
theorem dX1_whyNot_13 : decode cX1_whyNot 13 = .ok (.ireturn, 1) := by decide +kernel
theorem dX1_whyNot_14 : decode cX1_whyNot 14 = .ok (.aload_n 0, 1) := by decide +kernel
theorem dX1_whyNot_15 : decode cX1_whyNot 15 = .ok (.iload_n 2, 1) := by decide +kernel
theorem dX1_whyNot_16 : decode cX1_whyNot 16 = .ok (.invokevirtual 40, 3) := by decide +kernel
theorem dX1_whyNot_19 : decode cX1_whyNot 19 = .ok (.ifCond .eq 17, 3) := by decide +kernel
theorem dX1_whyNot_22 : decode cX1_whyNot 22 = .ok (.iload_n 1, 1) := by decide +kernel
theorem dX1_whyNot_23 : decode cX1_whyNot 23 = .ok (.bipush 62, 2) := by decide +kernel
theorem dX1_whyNot_25 : decode cX1_whyNot 25 = .ok (.if_icmp .ne 13, 3) := by decide +kernel
theorem dX1_whyNot_28 : decode cX1_whyNot 28 = .ok (.aload_n 0, 1) := by decide +kernel
theorem dX1_whyNot_29 : decode cX1_whyNot 29 = .ok (.iload_n 3, 1) := by decide +kernel
theorem dX1_whyNot_30 : decode cX1_whyNot 30 = .ok (.invokevirtual 40, 3) := by decide +kernel
theorem dX1_whyNot_33 : decode cX1_whyNot 33 = .ok (.ifCond .ne 5, 3) := by decide +kernel
theorem dX1_whyNot_36 : decode cX1_whyNot 36 = .ok (.iconst 1, 1) := by decide +kernel
theorem dX1_whyNot_37 : decode cX1_whyNot 37 = .ok (.ireturn, 1) := by decide +kernel
theorem dX1_whyNot_38 : decode cX1_whyNot 38 = .ok (.iload_n 1, 1) := by decide +kernel
theorem dX1_whyNot_39 : decode cX1_whyNot 39 = .ok (.bipush 120, 2) := by decide +kernel
theorem dX1_whyNot_41 : decode cX1_whyNot 41 = .ok (.if_icmp .ne 5, 3) := by decide +kernel
theorem dX1_whyNot_44 : decode cX1_whyNot 44 = .ok (.iconst 0, 1) := by decide +kernel
theorem dX1_whyNot_45 : decode cX1_whyNot 45 = .ok (.ireturn, 1) := by decide +kernel
theorem dX1_whyNot_46 : decode cX1_whyNot 46 = .ok (.iload_n 1, 1) := by decide +kernel
theorem dX1_whyNot_47 : decode cX1_whyNot 47 = .ok (.bipush 62, 2) := by decide +kernel
theorem dX1_whyNot_49 : decode cX1_whyNot 49 = .ok (.if_icmp .ne 10, 3) := by decide +kernel
theorem dX1_whyNot_52 : decode cX1_whyNot 52 = .ok (.aload_n 0, 1) := by decide +kernel
theorem dX1_whyNot_53 : decode cX1_whyNot 53 = .ok (.iload_n 2, 1) := by decide +kernel
theorem dX1_whyNot_54 : decode cX1_whyNot 54 = .ok (.iload_n 3, 1) := by decide +kernel
theorem dX1_whyNot_55 : decode cX1_whyNot 55 = .ok (.invokevirtual 53, 3) := by decide +kernel
theorem dX1_whyNot_58 : decode cX1_whyNot 58 = .ok (.ireturn, 1) := by decide +kernel
theorem dX1_whyNot_59 : decode cX1_whyNot 59 = .ok (.iload_n 1, 1) := by decide +kernel
theorem dX1_whyNot_60 : decode cX1_whyNot 60 = .ok (.invokestatic 57, 3) := by decide +kernel
theorem dX1_whyNot_63 : decode cX1_whyNot 63 = .ok (.istore 4, 2) := by decide +kernel
theorem dX1_whyNot_65 : decode cX1_whyNot 65 = .ok (.aload_n 0, 1) := by decide +kernel
theorem dX1_whyNot_66 : decode cX1_whyNot 66 = .ok (.getfield 21, 3) := by decide +kernel
theorem dX1_whyNot_69 : decode cX1_whyNot 69 = .ok (.iload_n 2, 1) := by decide +kernel
theorem dX1_whyNot_70 : decode cX1_whyNot 70 = .ok (.iaload, 1) := by decide +kernel
theorem dX1_whyNot_71 : decode cX1_whyNot 71 = .ok (.iload 4, 2) := by decide +kernel
theorem dX1_whyNot_73 : decode cX1_whyNot 73 = .ok (.iadd, 1) := by decide +kernel
theorem dX1_whyNot_74 : decode cX1_whyNot 74 = .ok (.iconst 2, 1) := by decide +kernel
theorem dX1_whyNot_75 : decode cX1_whyNot 75 = .ok (.if_icmp .le 5, 3) := by decide +kernel
theorem dX1_whyNot_78 : decode cX1_whyNot 78 = .ok (.iconst 3, 1) := by decide +kernel
theorem dX1_whyNot_79 : decode cX1_whyNot 79 = .ok (.ireturn, 1) := by decide +kernel
theorem dX1_whyNot_80 : decode cX1_whyNot 80 = .ok (.aload_n 0, 1) := by decide +kernel
theorem dX1_whyNot_81 : decode cX1_whyNot 81 = .ok (.getfield 50, 3) := by decide +kernel
theorem dX1_whyNot_84 : decode cX1_whyNot 84 = .ok (.iload 4, 2) := by decide +kernel
theorem dX1_whyNot_86 : decode cX1_whyNot 86 = .ok (.if_icmp .ge 7, 3) := by decide +kernel
theorem dX1_whyNot_89 : decode cX1_whyNot 89 = .ok (.iconst 4, 1) := by decide +kernel
theorem dX1_whyNot_90 : decode cX1_whyNot 90 = .ok (.goto 4, 3) := by decide +kernel
theorem dX1_whyNot_93 : decode cX1_whyNot 93 = .ok (.iconst 0, 1) := by decide +kernel
theorem dX1_whyNot_94 : decode cX1_whyNot 94 = .ok (.ireturn, 1) := by decide +kernel
theorem dX1_whyNotGive_0 : decode cX1_whyNotGive 0 = .ok (.iload_n 1, 1) := by decide +kernel
theorem dX1_whyNotGive_1 : decode cX1_whyNotGive 1 = .ok (.iload_n 2, 1) := by decide +kernel
theorem dX1_whyNotGive_2 : decode cX1_whyNotGive 2 = .ok (.if_icmp .ne 5, 3) := by decide +kernel
theorem dX1_whyNotGive_5 : decode cX1_whyNotGive 5 = .ok (.iconst 2, 1) := by decide +kernel
theorem dX1_whyNotGive_6 : decode cX1_whyNotGive 6 = .ok (.ireturn, 1) := by decide +kernel
theorem dX1_whyNotGive_7 : decode cX1_whyNotGive 7 = .ok (.aload_n 0, 1) := by decide +kernel
theorem dX1_whyNotGive_8 : decode cX1_whyNotGive 8 = .ok (.getfield 21, 3) := by decide +kernel
theorem dX1_whyNotGive_11 : decode cX1_whyNotGive 11 = .ok (.iload_n 2, 1) := by decide +kernel
theorem dX1_whyNotGive_12 : decode cX1_whyNotGive 12 = .ok (.iaload, 1) := by decide +kernel
theorem dX1_whyNotGive_13 : decode cX1_whyNotGive 13 = .ok (.iconst 1, 1) := by decide +kernel
theorem dX1_whyNotGive_14 : decode cX1_whyNotGive 14 = .ok (.iadd, 1) := by decide +kernel
theorem dX1_whyNotGive_15 : decode cX1_whyNotGive 15 = .ok (.iconst 2, 1) := by decide +kernel
theorem dX1_whyNotGive_16 : decode cX1_whyNotGive 16 = .ok (.if_icmp .le 5, 3) := by decide +kernel
theorem dX1_whyNotGive_19 : decode cX1_whyNotGive 19 = .ok (.iconst 3, 1) := by decide +kernel
theorem dX1_whyNotGive_20 : decode cX1_whyNotGive 20 = .ok (.ireturn, 1) := by decide +kernel
theorem dX1_whyNotGive_21 : decode cX1_whyNotGive 21 = .ok (.aload_n 0, 1) := by decide +kernel
theorem dX1_whyNotGive_22 : decode cX1_whyNotGive 22 = .ok (.getfield 21, 3) := by decide +kernel
theorem dX1_whyNotGive_25 : decode cX1_whyNotGive 25 = .ok (.iload_n 1, 1) := by decide +kernel
theorem dX1_whyNotGive_26 : decode cX1_whyNotGive 26 = .ok (.iaload, 1) := by decide +kernel
theorem dX1_whyNotGive_27 : decode cX1_whyNotGive 27 = .ok (.ifCond .ne 7, 3) := by decide +kernel
theorem dX1_whyNotGive_30 : decode cX1_whyNotGive 30 = .ok (.iconst 5, 1) := by decide +kernel
theorem dX1_whyNotGive_31 : decode cX1_whyNotGive 31 = .ok (.goto 4, 3) := by decide +kernel
theorem dX1_whyNotGive_34 : decode cX1_whyNotGive 34 = .ok (.iconst 0, 1) := by decide +kernel
theorem dX1_whyNotGive_35 : decode cX1_whyNotGive 35 = .ok (.ireturn, 1) := by decide +kernel
theorem dX1_halvesOf_0 : decode cX1_halvesOf 0 = .ok (.iload_n 0, 1) := by decide +kernel
theorem dX1_halvesOf_1 : decode cX1_halvesOf 1 = .ok (.bipush 98, 2) := by decide +kernel
theorem dX1_halvesOf_3 : decode cX1_halvesOf 3 = .ok (.if_icmp .ne 7, 3) := by decide +kernel
theorem dX1_halvesOf_6 : decode cX1_halvesOf 6 = .ok (.iconst 2, 1) := by decide +kernel
theorem dX1_halvesOf_7 : decode cX1_halvesOf 7 = .ok (.goto 4, 3) := by decide +kernel
theorem dX1_halvesOf_10 : decode cX1_halvesOf 10 = .ok (.iconst 1, 1) := by decide +kernel
theorem dX1_halvesOf_11 : decode cX1_halvesOf 11 = .ok (.ireturn, 1) := by decide +kernel
theorem dX1_act_0 : decode cX1_act 0 = .ok (.aload_n 0, 1) := by decide +kernel
theorem dX1_act_1 : decode cX1_act 1 = .ok (.iload_n 1, 1) := by decide +kernel
theorem dX1_act_2 : decode cX1_act 2 = .ok (.iload_n 2, 1) := by decide +kernel
theorem dX1_act_3 : decode cX1_act 3 = .ok (.iload_n 3, 1) := by decide +kernel
theorem dX1_act_4 : decode cX1_act 4 = .ok (.invokevirtual 60, 3) := by decide +kernel
theorem dX1_act_7 : decode cX1_act 7 = .ok (.ifCond .eq 4, 3) := by decide +kernel
theorem dX1_act_10 : decode cX1_act 10 = .ok (.return_, 1) := by decide +kernel
theorem dX1_act_11 : decode cX1_act 11 = .ok (.iload_n 1, 1) := by decide +kernel
theorem dX1_act_12 : decode cX1_act 12 = .ok (.bipush 33, 2) := by decide +kernel
theorem dX1_act_14 : decode cX1_act 14 = .ok (.if_icmp .ne 16, 3) := by decide +kernel
theorem dX1_act_17 : decode cX1_act 17 = .ok (.aload_n 0, 1) := by decide +kernel
theorem dX1_act_18 : decode cX1_act 18 = .ok (.iconst 1, 1) := by decide +kernel
theorem dX1_act_19 : decode cX1_act 19 = .ok (.aload_n 0, 1) := by decide +kernel
theorem dX1_act_20 : decode cX1_act 20 = .ok (.getfield 28, 3) := by decide +kernel
theorem dX1_act_23 : decode cX1_act 23 = .ok (.isub, 1) := by decide +kernel
theorem dX1_act_24 : decode cX1_act 24 = .ok (.putfield 28, 3) := by decide +kernel
theorem dX1_act_27 : decode cX1_act 27 = .ok (.goto 109, 3) := by decide +kernel
theorem dX1_act_30 : decode cX1_act 30 = .ok (.iload_n 1, 1) := by decide +kernel
theorem dX1_act_31 : decode cX1_act 31 = .ok (.bipush 46, 2) := by decide +kernel
theorem dX1_act_33 : decode cX1_act 33 = .ok (.if_icmp .ne 10, 3) := by decide +kernel
theorem dX1_act_36 : decode cX1_act 36 = .ok (.aload_n 0, 1) := by decide +kernel
theorem dX1_act_37 : decode cX1_act 37 = .ok (.invokevirtual 64, 3) := by decide +kernel
theorem dX1_act_40 : decode cX1_act 40 = .ok (.goto 96, 3) := by decide +kernel
theorem dX1_act_43 : decode cX1_act 43 = .ok (.iload_n 1, 1) := by decide +kernel
theorem dX1_act_44 : decode cX1_act 44 = .ok (.bipush 120, 2) := by decide +kernel
theorem dX1_act_46 : decode cX1_act 46 = .ok (.if_icmp .ne 11, 3) := by decide +kernel
theorem dX1_act_49 : decode cX1_act 49 = .ok (.aload_n 0, 1) := by decide +kernel
theorem dX1_act_50 : decode cX1_act 50 = .ok (.iload_n 2, 1) := by decide +kernel
theorem dX1_act_51 : decode cX1_act 51 = .ok (.invokevirtual 67, 3) := by decide +kernel
theorem dX1_act_54 : decode cX1_act 54 = .ok (.goto 82, 3) := by decide +kernel
theorem dX1_act_57 : decode cX1_act 57 = .ok (.iload_n 1, 1) := by decide +kernel
theorem dX1_act_58 : decode cX1_act 58 = .ok (.bipush 62, 2) := by decide +kernel
theorem dX1_act_60 : decode cX1_act 60 = .ok (.if_icmp .ne 42, 3) := by decide +kernel
theorem dX1_act_63 : decode cX1_act 63 = .ok (.aload_n 0, 1) := by decide +kernel
theorem dX1_act_64 : decode cX1_act 64 = .ok (.iload_n 2, 1) := by decide +kernel
theorem dX1_act_65 : decode cX1_act 65 = .ok (.invokevirtual 40, 3) := by decide +kernel
theorem dX1_act_68 : decode cX1_act 68 = .ok (.ifCond .eq 34, 3) := by decide +kernel
theorem dX1_act_71 : decode cX1_act 71 = .ok (.aload_n 0, 1) := by decide +kernel
theorem dX1_act_72 : decode cX1_act 72 = .ok (.iload_n 3, 1) := by decide +kernel
theorem dX1_act_73 : decode cX1_act 73 = .ok (.invokevirtual 40, 3) := by decide +kernel
theorem dX1_act_76 : decode cX1_act 76 = .ok (.ifCond .eq 26, 3) := by decide +kernel
theorem dX1_act_79 : decode cX1_act 79 = .ok (.aload_n 0, 1) := by decide +kernel
theorem dX1_act_80 : decode cX1_act 80 = .ok (.getfield 21, 3) := by decide +kernel
theorem dX1_act_83 : decode cX1_act 83 = .ok (.iload_n 2, 1) := by decide +kernel
theorem dX1_act_84 : decode cX1_act 84 = .ok (.dup2, 1) := by decide +kernel
theorem dX1_act_85 : decode cX1_act 85 = .ok (.iaload, 1) := by decide +kernel
theorem dX1_act_86 : decode cX1_act 86 = .ok (.iconst 1, 1) := by decide +kernel
theorem dX1_act_87 : decode cX1_act 87 = .ok (.isub, 1) := by decide +kernel
theorem dX1_act_88 : decode cX1_act 88 = .ok (.iastore, 1) := by decide +kernel
theorem dX1_act_89 : decode cX1_act 89 = .ok (.aload_n 0, 1) := by decide +kernel
theorem dX1_act_90 : decode cX1_act 90 = .ok (.getfield 21, 3) := by decide +kernel
theorem dX1_act_93 : decode cX1_act 93 = .ok (.iload_n 3, 1) := by decide +kernel
theorem dX1_act_94 : decode cX1_act 94 = .ok (.dup2, 1) := by decide +kernel
theorem dX1_act_95 : decode cX1_act 95 = .ok (.iaload, 1) := by decide +kernel
theorem dX1_act_96 : decode cX1_act 96 = .ok (.iconst 1, 1) := by decide +kernel
theorem dX1_act_97 : decode cX1_act 97 = .ok (.iadd, 1) := by decide +kernel
theorem dX1_act_98 : decode cX1_act 98 = .ok (.iastore, 1) := by decide +kernel
theorem dX1_act_99 : decode cX1_act 99 = .ok (.goto 37, 3) := by decide +kernel
theorem dX1_act_102 : decode cX1_act 102 = .ok (.aload_n 0, 1) := by decide +kernel
theorem dX1_act_103 : decode cX1_act 103 = .ok (.iload_n 2, 1) := by decide +kernel
theorem dX1_act_104 : decode cX1_act 104 = .ok (.invokevirtual 40, 3) := by decide +kernel
theorem dX1_act_107 : decode cX1_act 107 = .ok (.ifCond .eq 29, 3) := by decide +kernel
theorem dX1_act_110 : decode cX1_act 110 = .ok (.aload_n 0, 1) := by decide +kernel
theorem dX1_act_111 : decode cX1_act 111 = .ok (.getfield 21, 3) := by decide +kernel
theorem dX1_act_114 : decode cX1_act 114 = .ok (.iload_n 2, 1) := by decide +kernel
theorem dX1_act_115 : decode cX1_act 115 = .ok (.dup2, 1) := by decide +kernel
theorem dX1_act_116 : decode cX1_act 116 = .ok (.iaload, 1) := by decide +kernel
theorem dX1_act_117 : decode cX1_act 117 = .ok (.iload_n 1, 1) := by decide +kernel
theorem dX1_act_118 : decode cX1_act 118 = .ok (.invokestatic 57, 3) := by decide +kernel
theorem dX1_act_121 : decode cX1_act 121 = .ok (.iadd, 1) := by decide +kernel
theorem dX1_act_122 : decode cX1_act 122 = .ok (.iastore, 1) := by decide +kernel
theorem dX1_act_123 : decode cX1_act 123 = .ok (.aload_n 0, 1) := by decide +kernel
theorem dX1_act_124 : decode cX1_act 124 = .ok (.dup, 1) := by decide +kernel
theorem dX1_act_125 : decode cX1_act 125 = .ok (.getfield 50, 3) := by decide +kernel
theorem dX1_act_128 : decode cX1_act 128 = .ok (.iload_n 1, 1) := by decide +kernel
theorem dX1_act_129 : decode cX1_act 129 = .ok (.invokestatic 57, 3) := by decide +kernel
theorem dX1_act_132 : decode cX1_act 132 = .ok (.isub, 1) := by decide +kernel
theorem dX1_act_133 : decode cX1_act 133 = .ok (.putfield 50, 3) := by decide +kernel
theorem dX1_act_136 : decode cX1_act 136 = .ok (.return_, 1) := by decide +kernel
theorem dX1_wake_0 : decode cX1_wake 0 = .ok (.iconst 0, 1) := by decide +kernel
theorem dX1_wake_1 : decode cX1_wake 1 = .ok (.istore_n 1, 1) := by decide +kernel
theorem dX1_wake_2 : decode cX1_wake 2 = .ok (.iload_n 1, 1) := by decide +kernel
theorem dX1_wake_3 : decode cX1_wake 3 = .ok (.bipush 6, 2) := by decide +kernel
theorem dX1_wake_5 : decode cX1_wake 5 = .ok (.if_icmp .ge 47, 3) := by decide +kernel
theorem dX1_wake_8 : decode cX1_wake 8 = .ok (.aload_n 0, 1) := by decide +kernel
theorem dX1_wake_9 : decode cX1_wake 9 = .ok (.iload_n 1, 1) := by decide +kernel
theorem dX1_wake_10 : decode cX1_wake 10 = .ok (.invokevirtual 40, 3) := by decide +kernel
theorem dX1_wake_13 : decode cX1_wake 13 = .ok (.ifCond .eq 33, 3) := by decide +kernel
theorem dX1_wake_16 : decode cX1_wake 16 = .ok (.aload_n 0, 1) := by decide +kernel
theorem dX1_wake_17 : decode cX1_wake 17 = .ok (.getfield 9, 3) := by decide +kernel
theorem dX1_wake_20 : decode cX1_wake 20 = .ok (.iload_n 1, 1) := by decide +kernel
theorem dX1_wake_21 : decode cX1_wake 21 = .ok (.aload_n 0, 1) := by decide +kernel
theorem dX1_wake_22 : decode cX1_wake 22 = .ok (.iload_n 1, 1) := by decide +kernel
theorem dX1_wake_23 : decode cX1_wake 23 = .ok (.aload_n 0, 1) := by decide +kernel
theorem dX1_wake_24 : decode cX1_wake 24 = .ok (.getfield 9, 3) := by decide +kernel
theorem dX1_wake_27 : decode cX1_wake 27 = .ok (.iload_n 1, 1) := by decide +kernel
theorem dX1_wake_28 : decode cX1_wake 28 = .ok (.iaload, 1) := by decide +kernel
theorem dX1_wake_29 : decode cX1_wake 29 = .ok (.aload_n 0, 1) := by decide +kernel
theorem dX1_wake_30 : decode cX1_wake 30 = .ok (.getfield 21, 3) := by decide +kernel
theorem dX1_wake_33 : decode cX1_wake 33 = .ok (.iload_n 1, 1) := by decide +kernel
theorem dX1_wake_34 : decode cX1_wake 34 = .ok (.iaload, 1) := by decide +kernel
theorem dX1_wake_35 : decode cX1_wake 35 = .ok (.invokevirtual 71, 3) := by decide +kernel
theorem dX1_wake_38 : decode cX1_wake 38 = .ok (.iastore, 1) := by decide +kernel
theorem dX1_wake_39 : decode cX1_wake 39 = .ok (.aload_n 0, 1) := by decide +kernel
theorem dX1_wake_40 : decode cX1_wake 40 = .ok (.getfield 21, 3) := by decide +kernel
theorem dX1_wake_43 : decode cX1_wake 43 = .ok (.iload_n 1, 1) := by decide +kernel
theorem dX1_wake_44 : decode cX1_wake 44 = .ok (.iconst 0, 1) := by decide +kernel
theorem dX1_wake_45 : decode cX1_wake 45 = .ok (.iastore, 1) := by decide +kernel
theorem dX1_wake_46 : decode cX1_wake 46 = .ok (.iinc 1 1, 3) := by decide +kernel
theorem dX1_wake_49 : decode cX1_wake 49 = .ok (.goto (-47), 3) := by decide +kernel
theorem dX1_wake_52 : decode cX1_wake 52 = .ok (.aload_n 0, 1) := by decide +kernel
theorem dX1_wake_53 : decode cX1_wake 53 = .ok (.aload_n 0, 1) := by decide +kernel
theorem dX1_wake_54 : decode cX1_wake 54 = .ok (.getfield 28, 3) := by decide +kernel
theorem dX1_wake_57 : decode cX1_wake 57 = .ok (.iconst 1, 1) := by decide +kernel
theorem dX1_wake_58 : decode cX1_wake 58 = .ok (.if_icmp .ne 10, 3) := by decide +kernel
theorem dX1_wake_61 : decode cX1_wake 61 = .ok (.aload_n 0, 1) := by decide +kernel
theorem dX1_wake_62 : decode cX1_wake 62 = .ok (.getfield 24, 3) := by decide +kernel
theorem dX1_wake_65 : decode cX1_wake 65 = .ok (.goto 4, 3) := by decide +kernel
theorem dX1_wake_68 : decode cX1_wake 68 = .ok (.iconst 0, 1) := by decide +kernel
theorem dX1_wake_69 : decode cX1_wake 69 = .ok (.putfield 50, 3) := by decide +kernel
theorem dX1_wake_72 : decode cX1_wake 72 = .ok (.return_, 1) := by decide +kernel
theorem dX1_aged_0 : decode cX1_aged 0 = .ok (.aload_n 0, 1) := by decide +kernel
theorem dX1_aged_1 : decode cX1_aged 1 = .ok (.iload_n 1, 1) := by decide +kernel
theorem dX1_aged_2 : decode cX1_aged 2 = .ok (.invokevirtual 40, 3) := by decide +kernel
theorem dX1_aged_5 : decode cX1_aged 5 = .ok (.ifCond .eq 8, 3) := by decide +kernel
theorem dX1_aged_8 : decode cX1_aged 8 = .ok (.iload_n 3, 1) := by decide +kernel
theorem dX1_aged_9 : decode cX1_aged 9 = .ok (.iconst 1, 1) := by decide +kernel
theorem dX1_aged_10 : decode cX1_aged 10 = .ok (.if_icmp .ne 5, 3) := by decide +kernel
theorem dX1_aged_13 : decode cX1_aged 13 = .ok (.iload_n 2, 1) := by decide +kernel
theorem dX1_aged_14 : decode cX1_aged 14 = .ok (.ireturn, 1) := by decide +kernel
theorem dX1_aged_15 : decode cX1_aged 15 = .ok (.iload_n 3, 1) := by decide +kernel
theorem dX1_aged_16 : decode cX1_aged 16 = .ok (.ifCond .ne 19, 3) := by decide +kernel
theorem dX1_aged_19 : decode cX1_aged 19 = .ok (.bipush 99, 2) := by decide +kernel
theorem dX1_aged_21 : decode cX1_aged 21 = .ok (.iload_n 2, 1) := by decide +kernel
theorem dX1_aged_22 : decode cX1_aged 22 = .ok (.aload_n 0, 1) := by decide +kernel
theorem dX1_aged_23 : decode cX1_aged 23 = .ok (.getfield 15, 3) := by decide +kernel
theorem dX1_aged_26 : decode cX1_aged 26 = .ok (.iload_n 1, 1) := by decide +kernel
theorem dX1_aged_27 : decode cX1_aged 27 = .ok (.iaload, 1) := by decide +kernel
theorem dX1_aged_28 : decode cX1_aged 28 = .ok (.iadd, 1) := by decide +kernel
theorem dX1_aged_29 : decode cX1_aged 29 = .ok (.invokestatic 74, 3) := by decide +kernel
theorem dX1_aged_32 : decode cX1_aged 32 = .ok (.goto 20, 3) := by decide +kernel
theorem dX1_aged_35 : decode cX1_aged 35 = .ok (.aload_n 0, 1) := by decide +kernel
theorem dX1_aged_36 : decode cX1_aged 36 = .ok (.getfield 18, 3) := by decide +kernel
theorem dX1_aged_39 : decode cX1_aged 39 = .ok (.iload_n 1, 1) := by decide +kernel
theorem dX1_aged_40 : decode cX1_aged 40 = .ok (.iaload, 1) := by decide +kernel
theorem dX1_aged_41 : decode cX1_aged 41 = .ok (.iload_n 2, 1) := by decide +kernel
theorem dX1_aged_42 : decode cX1_aged 42 = .ok (.aload_n 0, 1) := by decide +kernel
theorem dX1_aged_43 : decode cX1_aged 43 = .ok (.getfield 15, 3) := by decide +kernel
theorem dX1_aged_46 : decode cX1_aged 46 = .ok (.iload_n 1, 1) := by decide +kernel
theorem dX1_aged_47 : decode cX1_aged 47 = .ok (.iaload, 1) := by decide +kernel
theorem dX1_aged_48 : decode cX1_aged 48 = .ok (.isub, 1) := by decide +kernel
theorem dX1_aged_49 : decode cX1_aged 49 = .ok (.invokestatic 79, 3) := by decide +kernel
theorem dX1_aged_52 : decode cX1_aged 52 = .ok (.ireturn, 1) := by decide +kernel
theorem dX1_oldestOne_0 : decode cX1_oldestOne 0 = .ok (.bipush (-6), 2) := by decide +kernel
theorem dX1_oldestOne_2 : decode cX1_oldestOne 2 = .ok (.istore_n 1, 1) := by decide +kernel
theorem dX1_oldestOne_3 : decode cX1_oldestOne 3 = .ok (.iconst (-1), 1) := by decide +kernel
theorem dX1_oldestOne_4 : decode cX1_oldestOne 4 = .ok (.istore_n 2, 1) := by decide +kernel
theorem dX1_oldestOne_5 : decode cX1_oldestOne 5 = .ok (.iconst 0, 1) := by decide +kernel
theorem dX1_oldestOne_6 : decode cX1_oldestOne 6 = .ok (.istore_n 3, 1) := by decide +kernel
theorem dX1_oldestOne_7 : decode cX1_oldestOne 7 = .ok (.iload_n 3, 1) := by decide +kernel
theorem dX1_oldestOne_8 : decode cX1_oldestOne 8 = .ok (.bipush 6, 2) := by decide +kernel
theorem dX1_oldestOne_10 : decode cX1_oldestOne 10 = .ok (.if_icmp .ge 36, 3) := by decide +kernel
theorem dX1_oldestOne_13 : decode cX1_oldestOne 13 = .ok (.aload_n 0, 1) := by decide +kernel
theorem dX1_oldestOne_14 : decode cX1_oldestOne 14 = .ok (.iload_n 3, 1) := by decide +kernel
theorem dX1_oldestOne_15 : decode cX1_oldestOne 15 = .ok (.invokevirtual 40, 3) := by decide +kernel
theorem dX1_oldestOne_18 : decode cX1_oldestOne 18 = .ok (.ifCond .eq 22, 3) := by decide +kernel
theorem dX1_oldestOne_21 : decode cX1_oldestOne 21 = .ok (.aload_n 0, 1) := by decide +kernel
theorem dX1_oldestOne_22 : decode cX1_oldestOne 22 = .ok (.getfield 9, 3) := by decide +kernel
theorem dX1_oldestOne_25 : decode cX1_oldestOne 25 = .ok (.iload_n 3, 1) := by decide +kernel
theorem dX1_oldestOne_26 : decode cX1_oldestOne 26 = .ok (.iaload, 1) := by decide +kernel
theorem dX1_oldestOne_27 : decode cX1_oldestOne 27 = .ok (.iload_n 2, 1) := by decide +kernel
theorem dX1_oldestOne_28 : decode cX1_oldestOne 28 = .ok (.if_icmp .le 12, 3) := by decide +kernel
theorem dX1_oldestOne_31 : decode cX1_oldestOne 31 = .ok (.iload_n 3, 1) := by decide +kernel
theorem dX1_oldestOne_32 : decode cX1_oldestOne 32 = .ok (.istore_n 1, 1) := by decide +kernel
theorem dX1_oldestOne_33 : decode cX1_oldestOne 33 = .ok (.aload_n 0, 1) := by decide +kernel
theorem dX1_oldestOne_34 : decode cX1_oldestOne 34 = .ok (.getfield 9, 3) := by decide +kernel
theorem dX1_oldestOne_37 : decode cX1_oldestOne 37 = .ok (.iload_n 3, 1) := by decide +kernel
theorem dX1_oldestOne_38 : decode cX1_oldestOne 38 = .ok (.iaload, 1) := by decide +kernel
theorem dX1_oldestOne_39 : decode cX1_oldestOne 39 = .ok (.istore_n 2, 1) := by decide +kernel
theorem dX1_oldestOne_40 : decode cX1_oldestOne 40 = .ok (.iinc 3 1, 3) := by decide +kernel
theorem dX1_oldestOne_43 : decode cX1_oldestOne 43 = .ok (.goto (-36), 3) := by decide +kernel
theorem dX1_oldestOne_46 : decode cX1_oldestOne 46 = .ok (.iload_n 1, 1) := by decide +kernel
theorem dX1_oldestOne_47 : decode cX1_oldestOne 47 = .ok (.ireturn, 1) := by decide +kernel
theorem dX1_looksTogether_0 : decode cX1_looksTogether 0 = .ok (.iconst 0, 1) := by decide +kernel
theorem dX1_looksTogether_1 : decode cX1_looksTogether 1 = .ok (.istore_n 1, 1) := by decide +kernel
theorem dX1_looksTogether_2 : decode cX1_looksTogether 2 = .ok (.iconst 0, 1) := by decide +kernel
theorem dX1_looksTogether_3 : decode cX1_looksTogether 3 = .ok (.istore_n 2, 1) := by decide +kernel
theorem dX1_looksTogether_4 : decode cX1_looksTogether 4 = .ok (.iload_n 2, 1) := by decide +kernel
theorem dX1_looksTogether_5 : decode cX1_looksTogether 5 = .ok (.bipush 6, 2) := by decide +kernel
theorem dX1_looksTogether_7 : decode cX1_looksTogether 7 = .ok (.if_icmp .ge 30, 3) := by decide +kernel
theorem dX1_looksTogether_10 : decode cX1_looksTogether 10 = .ok (.iload_n 1, 1) := by decide +kernel
theorem dX1_looksTogether_11 : decode cX1_looksTogether 11 = .ok (.aload_n 0, 1) := by decide +kernel
theorem dX1_looksTogether_12 : decode cX1_looksTogether 12 = .ok (.iload_n 2, 1) := by decide +kernel
theorem dX1_looksTogether_13 : decode cX1_looksTogether 13 = .ok (.invokevirtual 40, 3) := by decide +kernel
theorem dX1_looksTogether_16 : decode cX1_looksTogether 16 = .ok (.ifCond .eq 12, 3) := by decide +kernel
theorem dX1_looksTogether_19 : decode cX1_looksTogether 19 = .ok (.aload_n 0, 1) := by decide +kernel
theorem dX1_looksTogether_20 : decode cX1_looksTogether 20 = .ok (.getfield 9, 3) := by decide +kernel
theorem dX1_looksTogether_23 : decode cX1_looksTogether 23 = .ok (.iload_n 2, 1) := by decide +kernel
theorem dX1_looksTogether_24 : decode cX1_looksTogether 24 = .ok (.iaload, 1) := by decide +kernel
theorem dX1_looksTogether_25 : decode cX1_looksTogether 25 = .ok (.goto 4, 3) := by decide +kernel
theorem dX1_looksTogether_28 : decode cX1_looksTogether 28 = .ok (.iconst 0, 1) := by decide +kernel
theorem dX1_looksTogether_29 : decode cX1_looksTogether 29 = .ok (.iadd, 1) := by decide +kernel
theorem dX1_looksTogether_30 : decode cX1_looksTogether 30 = .ok (.istore_n 1, 1) := by decide +kernel
theorem dX1_looksTogether_31 : decode cX1_looksTogether 31 = .ok (.iinc 2 1, 3) := by decide +kernel
theorem dX1_looksTogether_34 : decode cX1_looksTogether 34 = .ok (.goto (-30), 3) := by decide +kernel
theorem dX1_looksTogether_37 : decode cX1_looksTogether 37 = .ok (.iload_n 1, 1) := by decide +kernel
theorem dX1_looksTogether_38 : decode cX1_looksTogether 38 = .ok (.ireturn, 1) := by decide +kernel
theorem dJ6_compare_7cf53_0 : decode cJ6_compare_7cf53 0 = .ok (.iload_n 0, 1) := by decide +kernel
theorem dJ6_compare_7cf53_1 : decode cJ6_compare_7cf53 1 = .ok (.iload_n 1, 1) := by decide +kernel
theorem dJ6_compare_7cf53_2 : decode cJ6_compare_7cf53 2 = .ok (.if_icmp .ge 7, 3) := by decide +kernel
theorem dJ6_compare_7cf53_5 : decode cJ6_compare_7cf53 5 = .ok (.iconst (-1), 1) := by decide +kernel
theorem dJ6_compare_7cf53_6 : decode cJ6_compare_7cf53 6 = .ok (.goto 13, 3) := by decide +kernel
theorem dJ6_compare_7cf53_9 : decode cJ6_compare_7cf53 9 = .ok (.iload_n 0, 1) := by decide +kernel
theorem dJ6_compare_7cf53_10 : decode cJ6_compare_7cf53 10 = .ok (.iload_n 1, 1) := by decide +kernel
theorem dJ6_compare_7cf53_11 : decode cJ6_compare_7cf53 11 = .ok (.if_icmp .ne 7, 3) := by decide +kernel
theorem dJ6_compare_7cf53_14 : decode cJ6_compare_7cf53 14 = .ok (.iconst 0, 1) := by decide +kernel
theorem dJ6_compare_7cf53_15 : decode cJ6_compare_7cf53 15 = .ok (.goto 4, 3) := by decide +kernel
theorem dJ6_compare_7cf53_18 : decode cJ6_compare_7cf53 18 = .ok (.iconst 1, 1) := by decide +kernel
theorem dJ6_compare_7cf53_19 : decode cJ6_compare_7cf53 19 = .ok (.ireturn, 1) := by decide +kernel
theorem dJ6_bitCount_0f7a4_0 : decode cJ6_bitCount_0f7a4 0 = .ok (.iload_n 0, 1) := by decide +kernel
theorem dJ6_bitCount_0f7a4_1 : decode cJ6_bitCount_0f7a4 1 = .ok (.iload_n 0, 1) := by decide +kernel
theorem dJ6_bitCount_0f7a4_2 : decode cJ6_bitCount_0f7a4 2 = .ok (.iconst 1, 1) := by decide +kernel
theorem dJ6_bitCount_0f7a4_3 : decode cJ6_bitCount_0f7a4 3 = .ok (.iushr, 1) := by decide +kernel
theorem dJ6_bitCount_0f7a4_4 : decode cJ6_bitCount_0f7a4 4 = .ok (.ldc_w 265, 3) := by decide +kernel
theorem dJ6_bitCount_0f7a4_7 : decode cJ6_bitCount_0f7a4 7 = .ok (.iand, 1) := by decide +kernel
theorem dJ6_bitCount_0f7a4_8 : decode cJ6_bitCount_0f7a4 8 = .ok (.isub, 1) := by decide +kernel
theorem dJ6_bitCount_0f7a4_9 : decode cJ6_bitCount_0f7a4 9 = .ok (.istore_n 0, 1) := by decide +kernel
theorem dJ6_bitCount_0f7a4_10 : decode cJ6_bitCount_0f7a4 10 = .ok (.iload_n 0, 1) := by decide +kernel
theorem dJ6_bitCount_0f7a4_11 : decode cJ6_bitCount_0f7a4 11 = .ok (.ldc_w 266, 3) := by decide +kernel
theorem dJ6_bitCount_0f7a4_14 : decode cJ6_bitCount_0f7a4 14 = .ok (.iand, 1) := by decide +kernel
theorem dJ6_bitCount_0f7a4_15 : decode cJ6_bitCount_0f7a4 15 = .ok (.iload_n 0, 1) := by decide +kernel
theorem dJ6_bitCount_0f7a4_16 : decode cJ6_bitCount_0f7a4 16 = .ok (.iconst 2, 1) := by decide +kernel
theorem dJ6_bitCount_0f7a4_17 : decode cJ6_bitCount_0f7a4 17 = .ok (.iushr, 1) := by decide +kernel
theorem dJ6_bitCount_0f7a4_18 : decode cJ6_bitCount_0f7a4 18 = .ok (.ldc_w 266, 3) := by decide +kernel
theorem dJ6_bitCount_0f7a4_21 : decode cJ6_bitCount_0f7a4 21 = .ok (.iand, 1) := by decide +kernel
theorem dJ6_bitCount_0f7a4_22 : decode cJ6_bitCount_0f7a4 22 = .ok (.iadd, 1) := by decide +kernel
theorem dJ6_bitCount_0f7a4_23 : decode cJ6_bitCount_0f7a4 23 = .ok (.istore_n 0, 1) := by decide +kernel
theorem dJ6_bitCount_0f7a4_24 : decode cJ6_bitCount_0f7a4 24 = .ok (.iload_n 0, 1) := by decide +kernel
theorem dJ6_bitCount_0f7a4_25 : decode cJ6_bitCount_0f7a4 25 = .ok (.iload_n 0, 1) := by decide +kernel
theorem dJ6_bitCount_0f7a4_26 : decode cJ6_bitCount_0f7a4 26 = .ok (.iconst 4, 1) := by decide +kernel
theorem dJ6_bitCount_0f7a4_27 : decode cJ6_bitCount_0f7a4 27 = .ok (.iushr, 1) := by decide +kernel
theorem dJ6_bitCount_0f7a4_28 : decode cJ6_bitCount_0f7a4 28 = .ok (.iadd, 1) := by decide +kernel
theorem dJ6_bitCount_0f7a4_29 : decode cJ6_bitCount_0f7a4 29 = .ok (.ldc_w 267, 3) := by decide +kernel
theorem dJ6_bitCount_0f7a4_32 : decode cJ6_bitCount_0f7a4 32 = .ok (.iand, 1) := by decide +kernel
theorem dJ6_bitCount_0f7a4_33 : decode cJ6_bitCount_0f7a4 33 = .ok (.istore_n 0, 1) := by decide +kernel
theorem dJ6_bitCount_0f7a4_34 : decode cJ6_bitCount_0f7a4 34 = .ok (.iload_n 0, 1) := by decide +kernel
theorem dJ6_bitCount_0f7a4_35 : decode cJ6_bitCount_0f7a4 35 = .ok (.iload_n 0, 1) := by decide +kernel
theorem dJ6_bitCount_0f7a4_36 : decode cJ6_bitCount_0f7a4 36 = .ok (.bipush 8, 2) := by decide +kernel
theorem dJ6_bitCount_0f7a4_38 : decode cJ6_bitCount_0f7a4 38 = .ok (.iushr, 1) := by decide +kernel
theorem dJ6_bitCount_0f7a4_39 : decode cJ6_bitCount_0f7a4 39 = .ok (.iadd, 1) := by decide +kernel
theorem dJ6_bitCount_0f7a4_40 : decode cJ6_bitCount_0f7a4 40 = .ok (.istore_n 0, 1) := by decide +kernel
theorem dJ6_bitCount_0f7a4_41 : decode cJ6_bitCount_0f7a4 41 = .ok (.iload_n 0, 1) := by decide +kernel
theorem dJ6_bitCount_0f7a4_42 : decode cJ6_bitCount_0f7a4 42 = .ok (.iload_n 0, 1) := by decide +kernel
theorem dJ6_bitCount_0f7a4_43 : decode cJ6_bitCount_0f7a4 43 = .ok (.bipush 16, 2) := by decide +kernel
theorem dJ6_bitCount_0f7a4_45 : decode cJ6_bitCount_0f7a4 45 = .ok (.iushr, 1) := by decide +kernel
theorem dJ6_bitCount_0f7a4_46 : decode cJ6_bitCount_0f7a4 46 = .ok (.iadd, 1) := by decide +kernel
theorem dJ6_bitCount_0f7a4_47 : decode cJ6_bitCount_0f7a4 47 = .ok (.istore_n 0, 1) := by decide +kernel
theorem dJ6_bitCount_0f7a4_48 : decode cJ6_bitCount_0f7a4 48 = .ok (.iload_n 0, 1) := by decide +kernel
theorem dJ6_bitCount_0f7a4_49 : decode cJ6_bitCount_0f7a4 49 = .ok (.bipush 63, 2) := by decide +kernel
theorem dJ6_bitCount_0f7a4_51 : decode cJ6_bitCount_0f7a4 51 = .ok (.iand, 1) := by decide +kernel
theorem dJ6_bitCount_0f7a4_52 : decode cJ6_bitCount_0f7a4 52 = .ok (.ireturn, 1) := by decide +kernel
theorem dJ9_max_7cf53_0 : decode cJ9_max_7cf53 0 = .ok (.iload_n 0, 1) := by decide +kernel
theorem dJ9_max_7cf53_1 : decode cJ9_max_7cf53 1 = .ok (.iload_n 1, 1) := by decide +kernel
theorem dJ9_max_7cf53_2 : decode cJ9_max_7cf53 2 = .ok (.if_icmp .lt 7, 3) := by decide +kernel
theorem dJ9_max_7cf53_5 : decode cJ9_max_7cf53 5 = .ok (.iload_n 0, 1) := by decide +kernel
theorem dJ9_max_7cf53_6 : decode cJ9_max_7cf53 6 = .ok (.goto 4, 3) := by decide +kernel
theorem dJ9_max_7cf53_9 : decode cJ9_max_7cf53 9 = .ok (.iload_n 1, 1) := by decide +kernel
theorem dJ9_max_7cf53_10 : decode cJ9_max_7cf53 10 = .ok (.ireturn, 1) := by decide +kernel
theorem dJ9_max_f86c9_0 : decode cJ9_max_f86c9 0 = .ok (.lload_n 0, 1) := by decide +kernel
theorem dJ9_max_f86c9_1 : decode cJ9_max_f86c9 1 = .ok (.lload_n 2, 1) := by decide +kernel
theorem dJ9_max_f86c9_2 : decode cJ9_max_f86c9 2 = .ok (.lcmp, 1) := by decide +kernel
theorem dJ9_max_f86c9_3 : decode cJ9_max_f86c9 3 = .ok (.ifCond .lt 7, 3) := by decide +kernel
theorem dJ9_max_f86c9_6 : decode cJ9_max_f86c9 6 = .ok (.lload_n 0, 1) := by decide +kernel
theorem dJ9_max_f86c9_7 : decode cJ9_max_f86c9 7 = .ok (.goto 4, 3) := by decide +kernel
theorem dJ9_max_f86c9_10 : decode cJ9_max_f86c9 10 = .ok (.lload_n 2, 1) := by decide +kernel
theorem dJ9_max_f86c9_11 : decode cJ9_max_f86c9 11 = .ok (.lreturn, 1) := by decide +kernel
theorem dJ9_min_7cf53_0 : decode cJ9_min_7cf53 0 = .ok (.iload_n 0, 1) := by decide +kernel
theorem dJ9_min_7cf53_1 : decode cJ9_min_7cf53 1 = .ok (.iload_n 1, 1) := by decide +kernel
theorem dJ9_min_7cf53_2 : decode cJ9_min_7cf53 2 = .ok (.if_icmp .gt 7, 3) := by decide +kernel
theorem dJ9_min_7cf53_5 : decode cJ9_min_7cf53 5 = .ok (.iload_n 0, 1) := by decide +kernel
theorem dJ9_min_7cf53_6 : decode cJ9_min_7cf53 6 = .ok (.goto 4, 3) := by decide +kernel
theorem dJ9_min_7cf53_9 : decode cJ9_min_7cf53 9 = .ok (.iload_n 1, 1) := by decide +kernel
theorem dJ9_min_7cf53_10 : decode cJ9_min_7cf53 10 = .ok (.ireturn, 1) := by decide +kernel
theorem b_X1_has_0 {l : Launch} {z d : Nat} {X : jX} {M : Nat → Int → Int} {Q : Option jV → jM → Prop} {h : Nat} {x1 : Int} (hh : jHi h)  (k1 : x1 < 0 → Q (some (jI 0)) (jG, M)) (k2 : 0 ≤ x1 → 6 ≤ x1 → Q (some (jI 0)) (jG, M)) (k3 : 0 ≤ x1 → x1 < 6 → (jand (jshr (M h 4) x1) 1) ≠ 1 → Q (some (jI 0)) (jG, M)) (k4 : 0 ≤ x1 → x1 < 6 → (jand (jshr (M h 4) x1) 1) = 1 → Q (some (jI 1)) (jG, M)) : J l z X d mX1_has (0, 0) 0 [jR h, jI x1] [] (jG, M) Q :=
  (J_iload_n dX1_has_0 rfl (J_if_lt dX1_has_1 (tgt := 26) (by decide) (fun c1 => (J_iconst dX1_has_26 jc_0 (J_zret dX1_has_27 rfl (Or.inl rfl) (k1 c1)))) (fun c1 => (J_iload_n dX1_has_4 rfl (J_bipush dX1_has_5 jc_6 jb_6 (J_icmp_ge dX1_has_7 (tgt := 26) (by decide) (fun c2 => (J_iconst dX1_has_26 jc_0 (J_zret dX1_has_27 rfl (Or.inl rfl) (k2 c1 c2)))) (fun c2 => (J_aload_n dX1_has_10 rfl (J_getI (k := 4) (kz := 4) jcl_X1 dX1_has_11 wf_X1_31 hh.1 (Nat.le_of_ble_eq_true rfl) rfl rfl (J_iload_n dX1_has_14 rfl (J_ishr dX1_has_15 (J_iconst dX1_has_16 jc_1 (J_iand dX1_has_17 (J_iconst dX1_has_18 jc_1 (J_icmp_ne dX1_has_19 (tgt := 26) (by decide) (fun c3 => (J_iconst dX1_has_26 jc_0 (J_zret dX1_has_27 rfl (Or.inl rfl) (k3 c1 c2 c3)))) (fun c3 => (J_iconst dX1_has_22 jc_1 (J_goto dX1_has_23 (tgt := 27) (by decide) (J_zret dX1_has_27 rfl (Or.inr rfl) (k4 c1 c2 c3))))))))))))))))))))
theorem b_X1_people_0 {l : Launch} {z d : Nat} {X : jX} {M : Nat → Int → Int} {Q : Option jV → jM → Prop} {h : Nat} (hh : jHi h)  (k1 : J l z X d mJ6_bitCount_0f7a4 (0, 0) 0 [jI (M h 4)] [] (jG, M) (fun r μ => J l z X (d + 1) mX1_people (0, 0) 7 [jR h] (r.toList ++ []) μ Q)) : J l z X (d + 1) mX1_people (0, 0) 0 [jR h] [] (jG, M) Q :=
  (J_aload_n dX1_people_0 rfl (J_getI (k := 4) (kz := 4) jcl_X1 dX1_people_1 wf_X1_31 hh.1 (Nat.le_of_ble_eq_true rfl) rfl rfl (J_callS (a1 := (0, 0)) (a2 := (0, 0)) (mm' := mJ6_bitCount_0f7a4) (S := []) [jI (M h 4)] md_J6_bitCount_0f7a4 is_J6_bitCount_0f7a4 dX1_people_4 wm_X1_34 rfl rfl (Nat.le_of_ble_eq_true rfl) (Nat.le_of_ble_eq_true rfl) rfl k1)))
theorem b_X1_people_7 {l : Launch} {z d : Nat} {X : jX} {M : Nat → Int → Int} {Q : Option jV → jM → Prop} {h : Nat} {t0 : Int} (hh : jHi h)  (k1 : Q (some (jI t0)) (jG, M)) : J l z X d mX1_people (0, 0) 7 [jR h] [jI t0] (jG, M) Q :=
  (J_iret dX1_people_7 rfl k1)
theorem b_X1_settle_0 {l : Launch} {z d : Nat} {X : jX} {M : Nat → Int → Int} {Q : Option jV → jM → Prop} {h : Nat} {x1 : Int} {x2 : Int} {x3 : Int} {x4 : Int} (hh : jHi h) (s1 : 0 ≤ x1 → x1 < 6 → 0 ≤ x1) (s2 : 0 ≤ x1 → x1 < 6 → x1 < 6) (k1 : x1 < 0 → Q none (jG, M)) (k2 : 0 ≤ x1 → x1 < 6 → Q none (jG, (jupd (jupd (jupd (jupd (jupd M h 4 (jor (M h 4) (jshl 1 x1))) (h + 1) x1 x2) (h + 2) x1 x3) (h + 3) x1 x4) (h + 4) x1 0))) (k3 : 0 ≤ x1 → 6 ≤ x1 → Q none (jG, M)) : J l z X d mX1_settle (0, 0) 0 [jR h, jI x1, jI x2, jI x3, jI x4] [] (jG, M) Q :=
  (J_iload_n dX1_settle_0 rfl (J_if_lt dX1_settle_1 (tgt := 10) (by decide) (fun c1 => (J_vret dX1_settle_10 rfl (k1 c1))) (fun c1 => (J_iload_n dX1_settle_4 rfl (J_bipush dX1_settle_5 jc_6 jb_6 (J_icmp_lt dX1_settle_7 (tgt := 11) (by decide) (fun c2 => (J_aload_n dX1_settle_11 rfl (J_dupR dX1_settle_12 (J_getI (k := 4) (kz := 4) jcl_X1 dX1_settle_13 wf_X1_31 hh.1 (Nat.le_of_ble_eq_true rfl) rfl rfl (J_iconst dX1_settle_16 jc_1 (J_iload_n dX1_settle_17 rfl (J_ishl dX1_settle_18 (J_ior dX1_settle_19 (J_putI (k := 4) (kz := 4) jcl_X1 dX1_settle_20 wf_X1_31 hh.1 (Nat.le_of_ble_eq_true rfl) rfl rfl rfl (J_aload_n dX1_settle_23 rfl (J_getR (k := 0) jcl_X1 dX1_settle_24 wf_X1_9 hh.1 (Nat.le_of_ble_eq_true rfl) rfl rfl (J_iload_n dX1_settle_27 rfl (J_iload_n dX1_settle_28 rfl (J_iast dX1_settle_29 hh.2.1 (s1 c1 c2) (s2 c1 c2) (J_aload_n dX1_settle_30 rfl (J_getR (k := 1) jcl_X1 dX1_settle_31 wf_X1_15 hh.1 (Nat.le_of_ble_eq_true rfl) rfl rfl (J_iload_n dX1_settle_34 rfl (J_iload_n dX1_settle_35 rfl (J_iast dX1_settle_36 hh.2.2.1 (s1 c1 c2) (s2 c1 c2) (J_aload_n dX1_settle_37 rfl (J_getR (k := 2) jcl_X1 dX1_settle_38 wf_X1_18 hh.1 (Nat.le_of_ble_eq_true rfl) rfl rfl (J_iload_n dX1_settle_41 rfl (J_iload dX1_settle_42 rfl (J_iast dX1_settle_44 hh.2.2.2.1 (s1 c1 c2) (s2 c1 c2) (J_aload_n dX1_settle_45 rfl (J_getR (k := 3) jcl_X1 dX1_settle_46 wf_X1_21 hh.1 (Nat.le_of_ble_eq_true rfl) rfl rfl (J_iload_n dX1_settle_49 rfl (J_iconst dX1_settle_50 jc_0 (J_iast dX1_settle_51 hh.2.2.2.2 (s1 c1 c2) (s2 c1 c2) (J_vret dX1_settle_52 rfl (k2 c1 c2))))))))))))))))))))))))))))))) (fun c2 => (J_vret dX1_settle_10 rfl (k3 c1 c2)))))))))
theorem b_X1_drop_0 {l : Launch} {z d : Nat} {X : jX} {M : Nat → Int → Int} {Q : Option jV → jM → Prop} {h : Nat} {x1 : Int} (hh : jHi h)  (k1 : J l z X d mX1_has (0, 0) 0 [jR h, jI x1] [] (jG, M) (fun r μ => J l z X (d + 1) mX1_drop (0, 0) 5 [jR h, jI x1] (r.toList ++ []) μ Q)) : J l z X (d + 1) mX1_drop (0, 0) 0 [jR h, jI x1] [] (jG, M) Q :=
  (J_aload_n dX1_drop_0 rfl (J_iload_n dX1_drop_1 rfl (J_callV (a1 := (0, 0)) (a2 := (0, 0)) (mm' := mX1_has) (S := []) [jI x1] md_X1_has im_X1_has se_X1_has dX1_drop_2 wm_X1_40 jcl_X1.1 rfl hh.1 rfl rfl (Nat.le_of_ble_eq_true rfl) (Nat.le_of_ble_eq_true rfl) rfl k1)))
theorem b_X1_drop_5 {l : Launch} {z d : Nat} {X : jX} {M : Nat → Int → Int} {Q : Option jV → jM → Prop} {h : Nat} {x1 : Int} {t0 : Int} (hh : jHi h)  (k1 : t0 = 0 → Q none (jG, M)) (k2 : t0 ≠ 0 → Q none (jG, (jupd M h 4 (jand (M h 4) (jxor (jshl 1 x1) (-1)))))) : J l z X d mX1_drop (0, 0) 5 [jR h, jI x1] [jI t0] (jG, M) Q :=
  (J_if_eq dX1_drop_5 (tgt := 22) (by decide) (fun c1 => (J_vret dX1_drop_22 rfl (k1 c1))) (fun c1 => (J_aload_n dX1_drop_8 rfl (J_dupR dX1_drop_9 (J_getI (k := 4) (kz := 4) jcl_X1 dX1_drop_10 wf_X1_31 hh.1 (Nat.le_of_ble_eq_true rfl) rfl rfl (J_iconst dX1_drop_13 jc_1 (J_iload_n dX1_drop_14 rfl (J_ishl dX1_drop_15 (J_iconst dX1_drop_16 jc_m1 (J_ixor dX1_drop_17 (J_iand dX1_drop_18 (J_putI (k := 4) (kz := 4) jcl_X1 dX1_drop_19 wf_X1_31 hh.1 (Nat.le_of_ble_eq_true rfl) rfl rfl rfl (J_vret dX1_drop_22 rfl (k2 c1))))))))))))))
theorem b_X1_takeOver_0 {l : Launch} {z d : Nat} {X : jX} {M : Nat → Int → Int} {Q : Option jV → jM → Prop} {h : Nat} {h2 : Nat} (hh : jHi h) (hh2 : jHi h2)  (k1 : Q none (jG, (jupd (jupd (jupd (jupd (jcpy (jcpy (jcpy (jcpy M (h2 + 1) (h + 1) 6) (h2 + 2) (h + 2) 6) (h2 + 3) (h + 3) 6) (h2 + 4) (h + 4) 6) h 4 ((jcpy (jcpy (jcpy (jcpy M (h2 + 1) (h + 1) 6) (h2 + 2) (h + 2) 6) (h2 + 3) (h + 3) 6) (h2 + 4) (h + 4) 6) h2 4)) h 5 ((jupd (jcpy (jcpy (jcpy (jcpy M (h2 + 1) (h + 1) 6) (h2 + 2) (h + 2) 6) (h2 + 3) (h + 3) 6) (h2 + 4) (h + 4) 6) h 4 ((jcpy (jcpy (jcpy (jcpy M (h2 + 1) (h + 1) 6) (h2 + 2) (h + 2) 6) (h2 + 3) (h + 3) 6) (h2 + 4) (h + 4) 6) h2 4)) h2 5)) h 6 ((jupd (jupd (jcpy (jcpy (jcpy (jcpy M (h2 + 1) (h + 1) 6) (h2 + 2) (h + 2) 6) (h2 + 3) (h + 3) 6) (h2 + 4) (h + 4) 6) h 4 ((jcpy (jcpy (jcpy (jcpy M (h2 + 1) (h + 1) 6) (h2 + 2) (h + 2) 6) (h2 + 3) (h + 3) 6) (h2 + 4) (h + 4) 6) h2 4)) h 5 ((jupd (jcpy (jcpy (jcpy (jcpy M (h2 + 1) (h + 1) 6) (h2 + 2) (h + 2) 6) (h2 + 3) (h + 3) 6) (h2 + 4) (h + 4) 6) h 4 ((jcpy (jcpy (jcpy (jcpy M (h2 + 1) (h + 1) 6) (h2 + 2) (h + 2) 6) (h2 + 3) (h + 3) 6) (h2 + 4) (h + 4) 6) h2 4)) h2 5)) h2 6)) h 7 ((jupd (jupd (jupd (jcpy (jcpy (jcpy (jcpy M (h2 + 1) (h + 1) 6) (h2 + 2) (h + 2) 6) (h2 + 3) (h + 3) 6) (h2 + 4) (h + 4) 6) h 4 ((jcpy (jcpy (jcpy (jcpy M (h2 + 1) (h + 1) 6) (h2 + 2) (h + 2) 6) (h2 + 3) (h + 3) 6) (h2 + 4) (h + 4) 6) h2 4)) h 5 ((jupd (jcpy (jcpy (jcpy (jcpy M (h2 + 1) (h + 1) 6) (h2 + 2) (h + 2) 6) (h2 + 3) (h + 3) 6) (h2 + 4) (h + 4) 6) h 4 ((jcpy (jcpy (jcpy (jcpy M (h2 + 1) (h + 1) 6) (h2 + 2) (h + 2) 6) (h2 + 3) (h + 3) 6) (h2 + 4) (h + 4) 6) h2 4)) h2 5)) h 6 ((jupd (jupd (jcpy (jcpy (jcpy (jcpy M (h2 + 1) (h + 1) 6) (h2 + 2) (h + 2) 6) (h2 + 3) (h + 3) 6) (h2 + 4) (h + 4) 6) h 4 ((jcpy (jcpy (jcpy (jcpy M (h2 + 1) (h + 1) 6) (h2 + 2) (h + 2) 6) (h2 + 3) (h + 3) 6) (h2 + 4) (h + 4) 6) h2 4)) h 5 ((jupd (jcpy (jcpy (jcpy (jcpy M (h2 + 1) (h + 1) 6) (h2 + 2) (h + 2) 6) (h2 + 3) (h + 3) 6) (h2 + 4) (h + 4) 6) h 4 ((jcpy (jcpy (jcpy (jcpy M (h2 + 1) (h + 1) 6) (h2 + 2) (h + 2) 6) (h2 + 3) (h + 3) 6) (h2 + 4) (h + 4) 6) h2 4)) h2 5)) h2 6)) h2 7)))) : J l z X (d + 1) mX1_takeOver (0, 0) 0 [jR h, jR h2] [] (jG, M) Q :=
  (J_aload_n dX1_takeOver_0 rfl (J_getR (k := 0) jcl_X1 dX1_takeOver_1 wf_X1_9 hh2.1 (Nat.le_of_ble_eq_true rfl) rfl rfl (J_iconst dX1_takeOver_4 jc_0 (J_aload_n dX1_takeOver_5 rfl (J_getR (k := 0) jcl_X1 dX1_takeOver_6 wf_X1_9 hh.1 (Nat.le_of_ble_eq_true rfl) rfl rfl (J_iconst dX1_takeOver_9 jc_0 (J_bipush dX1_takeOver_10 jc_6 jb_6 (J_acopy dX1_takeOver_12 wm_X1_44 wac_1 wac_2 wac_3 hh2.2.1 hh.2.1 (by decide) (by decide) (by decide) (by decide) (by omega) (J_aload_n dX1_takeOver_15 rfl (J_getR (k := 1) jcl_X1 dX1_takeOver_16 wf_X1_15 hh2.1 (Nat.le_of_ble_eq_true rfl) rfl rfl (J_iconst dX1_takeOver_19 jc_0 (J_aload_n dX1_takeOver_20 rfl (J_getR (k := 1) jcl_X1 dX1_takeOver_21 wf_X1_15 hh.1 (Nat.le_of_ble_eq_true rfl) rfl rfl (J_iconst dX1_takeOver_24 jc_0 (J_bipush dX1_takeOver_25 jc_6 jb_6 (J_acopy dX1_takeOver_27 wm_X1_44 wac_1 wac_2 wac_3 hh2.2.2.1 hh.2.2.1 (by decide) (by decide) (by decide) (by decide) (by omega) (J_aload_n dX1_takeOver_30 rfl (J_getR (k := 2) jcl_X1 dX1_takeOver_31 wf_X1_18 hh2.1 (Nat.le_of_ble_eq_true rfl) rfl rfl (J_iconst dX1_takeOver_34 jc_0 (J_aload_n dX1_takeOver_35 rfl (J_getR (k := 2) jcl_X1 dX1_takeOver_36 wf_X1_18 hh.1 (Nat.le_of_ble_eq_true rfl) rfl rfl (J_iconst dX1_takeOver_39 jc_0 (J_bipush dX1_takeOver_40 jc_6 jb_6 (J_acopy dX1_takeOver_42 wm_X1_44 wac_1 wac_2 wac_3 hh2.2.2.2.1 hh.2.2.2.1 (by decide) (by decide) (by decide) (by decide) (by omega) (J_aload_n dX1_takeOver_45 rfl (J_getR (k := 3) jcl_X1 dX1_takeOver_46 wf_X1_21 hh2.1 (Nat.le_of_ble_eq_true rfl) rfl rfl (J_iconst dX1_takeOver_49 jc_0 (J_aload_n dX1_takeOver_50 rfl (J_getR (k := 3) jcl_X1 dX1_takeOver_51 wf_X1_21 hh.1 (Nat.le_of_ble_eq_true rfl) rfl rfl (J_iconst dX1_takeOver_54 jc_0 (J_bipush dX1_takeOver_55 jc_6 jb_6 (J_acopy dX1_takeOver_57 wm_X1_44 wac_1 wac_2 wac_3 hh2.2.2.2.2 hh.2.2.2.2 (by decide) (by decide) (by decide) (by decide) (by omega) (J_aload_n dX1_takeOver_60 rfl (J_aload_n dX1_takeOver_61 rfl (J_getI (k := 4) (kz := 4) jcl_X1 dX1_takeOver_62 wf_X1_31 hh2.1 (Nat.le_of_ble_eq_true rfl) rfl rfl (J_putI (k := 4) (kz := 4) jcl_X1 dX1_takeOver_65 wf_X1_31 hh.1 (Nat.le_of_ble_eq_true rfl) rfl rfl rfl (J_aload_n dX1_takeOver_68 rfl (J_aload_n dX1_takeOver_69 rfl (J_getI (k := 5) (kz := 5) jcl_X1 dX1_takeOver_70 wf_X1_50 hh2.1 (Nat.le_of_ble_eq_true rfl) rfl rfl (J_putI (k := 5) (kz := 5) jcl_X1 dX1_takeOver_73 wf_X1_50 hh.1 (Nat.le_of_ble_eq_true rfl) rfl rfl rfl (J_aload_n dX1_takeOver_76 rfl (J_aload_n dX1_takeOver_77 rfl (J_getI (k := 6) (kz := 6) jcl_X1 dX1_takeOver_78 wf_X1_24 hh2.1 (Nat.le_of_ble_eq_true rfl) rfl rfl (J_putI (k := 6) (kz := 6) jcl_X1 dX1_takeOver_81 wf_X1_24 hh.1 (Nat.le_of_ble_eq_true rfl) rfl rfl rfl (J_aload_n dX1_takeOver_84 rfl (J_aload_n dX1_takeOver_85 rfl (J_getI (k := 7) (kz := 7) jcl_X1 dX1_takeOver_86 wf_X1_28 hh2.1 (Nat.le_of_ble_eq_true rfl) rfl rfl (J_putI (k := 7) (kz := 7) jcl_X1 dX1_takeOver_89 wf_X1_28 hh.1 (Nat.le_of_ble_eq_true rfl) rfl rfl rfl (J_vret dX1_takeOver_92 rfl k1)))))))))))))))))))))))))))))))))))))))))))))))))
theorem b_X1_whyNot_0 {l : Launch} {z d : Nat} {X : jX} {M : Nat → Int → Int} {Q : Option jV → jM → Prop} {h : Nat} {x1 : Int} {x2 : Int} {x3 : Int} (hh : jHi h)  (k1 : x1 = 33 → Q (some (jI 0)) (jG, M)) (k2 : x1 ≠ 33 → x1 ≠ 46 → J l z X d mX1_has (0, 0) 0 [jR h, jI x2] [] (jG, M) (fun r μ => J l z X (d + 1) mX1_whyNot (0, 0) 19 [jR h, jI x1, jI x2, jI x3, jN] (r.toList ++ []) μ Q)) (k3 : x1 ≠ 33 → x1 = 46 → Q (some (jI 0)) (jG, M)) : J l z X (d + 1) mX1_whyNot (0, 0) 0 [jR h, jI x1, jI x2, jI x3, jN] [] (jG, M) Q :=
  (J_iload_n dX1_whyNot_0 rfl (J_bipush dX1_whyNot_1 jc_33 jb_33 (J_icmp_eq dX1_whyNot_3 (tgt := 12) (by decide) (fun c1 => (J_iconst dX1_whyNot_12 jc_0 (J_iret dX1_whyNot_13 rfl (k1 c1)))) (fun c1 => (J_iload_n dX1_whyNot_6 rfl (J_bipush dX1_whyNot_7 jc_46 jb_46 (J_icmp_ne dX1_whyNot_9 (tgt := 14) (by decide) (fun c2 => (J_aload_n dX1_whyNot_14 rfl (J_iload_n dX1_whyNot_15 rfl (J_callV (a1 := (0, 0)) (a2 := (0, 0)) (mm' := mX1_has) (S := []) [jI x2] md_X1_has im_X1_has se_X1_has dX1_whyNot_16 wm_X1_40 jcl_X1.1 rfl hh.1 rfl rfl (Nat.le_of_ble_eq_true rfl) (Nat.le_of_ble_eq_true rfl) rfl (k2 c1 c2))))) (fun c2 => (J_iconst dX1_whyNot_12 jc_0 (J_iret dX1_whyNot_13 rfl (k3 c1 c2)))))))))))
theorem b_X1_whyNot_19 {l : Launch} {z d : Nat} {X : jX} {M : Nat → Int → Int} {Q : Option jV → jM → Prop} {h : Nat} {x1 : Int} {x2 : Int} {x3 : Int} {t0 : Int} (hh : jHi h)  (k1 : t0 = 0 → Q (some (jI 1)) (jG, M)) (k2 : t0 ≠ 0 → x1 ≠ 62 → J l z X (d + 1) mX1_whyNot (0, 0) 38 [jR h, jI x1, jI x2, jI x3, jN] [] (jG, M) Q) (k3 : t0 ≠ 0 → x1 = 62 → J l z X d mX1_has (0, 0) 0 [jR h, jI x3] [] (jG, M) (fun r μ => J l z X (d + 1) mX1_whyNot (0, 0) 33 [jR h, jI x1, jI x2, jI x3, jN] (r.toList ++ []) μ Q)) : J l z X (d + 1) mX1_whyNot (0, 0) 19 [jR h, jI x1, jI x2, jI x3, jN] [jI t0] (jG, M) Q :=
  (J_if_eq dX1_whyNot_19 (tgt := 36) (by decide) (fun c1 => (J_iconst dX1_whyNot_36 jc_1 (J_iret dX1_whyNot_37 rfl (k1 c1)))) (fun c1 => (J_iload_n dX1_whyNot_22 rfl (J_bipush dX1_whyNot_23 jc_62 jb_62 (J_icmp_ne dX1_whyNot_25 (tgt := 38) (by decide) (fun c2 => (k2 c1 c2)) (fun c2 => (J_aload_n dX1_whyNot_28 rfl (J_iload_n dX1_whyNot_29 rfl (J_callV (a1 := (0, 0)) (a2 := (0, 0)) (mm' := mX1_has) (S := []) [jI x3] md_X1_has im_X1_has se_X1_has dX1_whyNot_30 wm_X1_40 jcl_X1.1 rfl hh.1 rfl rfl (Nat.le_of_ble_eq_true rfl) (Nat.le_of_ble_eq_true rfl) rfl (k3 c1 c2))))))))))
theorem b_X1_whyNot_33 {l : Launch} {z d : Nat} {X : jX} {M : Nat → Int → Int} {Q : Option jV → jM → Prop} {h : Nat} {x1 : Int} {x2 : Int} {x3 : Int} {t0 : Int} (hh : jHi h)  (k1 : t0 ≠ 0 → J l z X d mX1_whyNot (0, 0) 38 [jR h, jI x1, jI x2, jI x3, jN] [] (jG, M) Q) (k2 : t0 = 0 → Q (some (jI 1)) (jG, M)) : J l z X d mX1_whyNot (0, 0) 33 [jR h, jI x1, jI x2, jI x3, jN] [jI t0] (jG, M) Q :=
  (J_if_ne dX1_whyNot_33 (tgt := 38) (by decide) (fun c1 => (k1 c1)) (fun c1 => (J_iconst dX1_whyNot_36 jc_1 (J_iret dX1_whyNot_37 rfl (k2 c1)))))
theorem b_X1_whyNot_38 {l : Launch} {z d : Nat} {X : jX} {M : Nat → Int → Int} {Q : Option jV → jM → Prop} {h : Nat} {x1 : Int} {x2 : Int} {x3 : Int} (hh : jHi h)  (k1 : x1 ≠ 120 → x1 ≠ 62 → J l z X d mX1_halvesOf (0, 0) 0 [jI x1] [] (jG, M) (fun r μ => J l z X (d + 1) mX1_whyNot (0, 0) 63 [jR h, jI x1, jI x2, jI x3, jN] (r.toList ++ []) μ Q)) (k2 : x1 ≠ 120 → x1 = 62 → J l z X d mX1_whyNotGive (0, 0) 0 [jR h, jI x2, jI x3] [] (jG, M) (fun r μ => J l z X (d + 1) mX1_whyNot (0, 0) 58 [jR h, jI x1, jI x2, jI x3, jN] (r.toList ++ []) μ Q)) (k3 : x1 = 120 → Q (some (jI 0)) (jG, M)) : J l z X (d + 1) mX1_whyNot (0, 0) 38 [jR h, jI x1, jI x2, jI x3, jN] [] (jG, M) Q :=
  (J_iload_n dX1_whyNot_38 rfl (J_bipush dX1_whyNot_39 jc_120 jb_120 (J_icmp_ne dX1_whyNot_41 (tgt := 46) (by decide) (fun c1 => (J_iload_n dX1_whyNot_46 rfl (J_bipush dX1_whyNot_47 jc_62 jb_62 (J_icmp_ne dX1_whyNot_49 (tgt := 59) (by decide) (fun c2 => (J_iload_n dX1_whyNot_59 rfl (J_callS (a1 := (0, 0)) (a2 := (0, 0)) (mm' := mX1_halvesOf) (S := []) [jI x1] md_X1_halvesOf is_X1_halvesOf dX1_whyNot_60 wm_X1_57 rfl rfl (Nat.le_of_ble_eq_true rfl) (Nat.le_of_ble_eq_true rfl) rfl (k1 c1 c2)))) (fun c2 => (J_aload_n dX1_whyNot_52 rfl (J_iload_n dX1_whyNot_53 rfl (J_iload_n dX1_whyNot_54 rfl (J_callV (a1 := (0, 0)) (a2 := (0, 0)) (mm' := mX1_whyNotGive) (S := []) [jI x2, jI x3] md_X1_whyNotGive im_X1_whyNotGive se_X1_whyNotGive dX1_whyNot_55 wm_X1_53 jcl_X1.1 rfl hh.1 rfl rfl (Nat.le_of_ble_eq_true rfl) (Nat.le_of_ble_eq_true rfl) rfl (k2 c1 c2)))))))))) (fun c1 => (J_iconst dX1_whyNot_44 jc_0 (J_iret dX1_whyNot_45 rfl (k3 c1)))))))
theorem b_X1_whyNot_58 {l : Launch} {z d : Nat} {X : jX} {M : Nat → Int → Int} {Q : Option jV → jM → Prop} {h : Nat} {x1 : Int} {x2 : Int} {x3 : Int} {t0 : Int} (hh : jHi h)  (k1 : Q (some (jI t0)) (jG, M)) : J l z X d mX1_whyNot (0, 0) 58 [jR h, jI x1, jI x2, jI x3, jN] [jI t0] (jG, M) Q :=
  (J_iret dX1_whyNot_58 rfl k1)
theorem b_X1_whyNot_63 {l : Launch} {z d : Nat} {X : jX} {M : Nat → Int → Int} {Q : Option jV → jM → Prop} {h : Nat} {x1 : Int} {x2 : Int} {x3 : Int} {t0 : Int} (hh : jHi h) (s1 : 0 ≤ x2) (s2 : x2 < 6) (s3 : jIn ((M (h + 4) x2) + t0)) (k1 : ((M (h + 4) x2) + t0) ≤ 2 → t0 ≤ (M h 5) → Q (some (jI 0)) (jG, M)) (k2 : ((M (h + 4) x2) + t0) ≤ 2 → (M h 5) < t0 → Q (some (jI 4)) (jG, M)) (k3 : 2 < ((M (h + 4) x2) + t0) → Q (some (jI 3)) (jG, M)) : J l z X d mX1_whyNot (0, 0) 63 [jR h, jI x1, jI x2, jI x3, jN] [jI t0] (jG, M) Q :=
  (J_istore dX1_whyNot_63 (Nat.le_of_ble_eq_true rfl) (J_aload_n dX1_whyNot_65 rfl (J_getR (k := 3) jcl_X1 dX1_whyNot_66 wf_X1_21 hh.1 (Nat.le_of_ble_eq_true rfl) rfl rfl (J_iload_n dX1_whyNot_69 rfl (J_iald dX1_whyNot_70 hh.2.2.2.2 s1 s2 (J_iload dX1_whyNot_71 rfl (J_iadd dX1_whyNot_73 s3 (J_iconst dX1_whyNot_74 jc_2 (J_icmp_le dX1_whyNot_75 (tgt := 80) (by decide) (fun c1 => (J_aload_n dX1_whyNot_80 rfl (J_getI (k := 5) (kz := 5) jcl_X1 dX1_whyNot_81 wf_X1_50 hh.1 (Nat.le_of_ble_eq_true rfl) rfl rfl (J_iload dX1_whyNot_84 rfl (J_icmp_ge dX1_whyNot_86 (tgt := 93) (by decide) (fun c2 => (J_iconst dX1_whyNot_93 jc_0 (J_iret dX1_whyNot_94 rfl (k1 c1 c2)))) (fun c2 => (J_iconst dX1_whyNot_89 jc_4 (J_goto dX1_whyNot_90 (tgt := 94) (by decide) (J_iret dX1_whyNot_94 rfl (k2 c1 c2)))))))))) (fun c1 => (J_iconst dX1_whyNot_78 jc_3 (J_iret dX1_whyNot_79 rfl (k3 c1)))))))))))))
theorem b_X1_whyNotGive_0 {l : Launch} {z d : Nat} {X : jX} {M : Nat → Int → Int} {Q : Option jV → jM → Prop} {h : Nat} {x1 : Int} {x2 : Int} (hh : jHi h) (s1 : x1 ≠ x2 → 0 ≤ x2) (s2 : x1 ≠ x2 → x2 < 6) (s3 : x1 ≠ x2 → jIn ((M (h + 4) x2) + 1)) (s4 : x1 ≠ x2 → ((M (h + 4) x2) + 1) ≤ 2 → 0 ≤ x1) (s5 : x1 ≠ x2 → ((M (h + 4) x2) + 1) ≤ 2 → x1 < 6) (k1 : x1 ≠ x2 → ((M (h + 4) x2) + 1) ≤ 2 → (M (h + 4) x1) ≠ 0 → Q (some (jI 0)) (jG, M)) (k2 : x1 ≠ x2 → ((M (h + 4) x2) + 1) ≤ 2 → (M (h + 4) x1) = 0 → Q (some (jI 5)) (jG, M)) (k3 : x1 ≠ x2 → 2 < ((M (h + 4) x2) + 1) → Q (some (jI 3)) (jG, M)) (k4 : x1 = x2 → Q (some (jI 2)) (jG, M)) : J l z X d mX1_whyNotGive (0, 0) 0 [jR h, jI x1, jI x2] [] (jG, M) Q :=
  (J_iload_n dX1_whyNotGive_0 rfl (J_iload_n dX1_whyNotGive_1 rfl (J_icmp_ne dX1_whyNotGive_2 (tgt := 7) (by decide) (fun c1 => (J_aload_n dX1_whyNotGive_7 rfl (J_getR (k := 3) jcl_X1 dX1_whyNotGive_8 wf_X1_21 hh.1 (Nat.le_of_ble_eq_true rfl) rfl rfl (J_iload_n dX1_whyNotGive_11 rfl (J_iald dX1_whyNotGive_12 hh.2.2.2.2 (s1 c1) (s2 c1) (J_iconst dX1_whyNotGive_13 jc_1 (J_iadd dX1_whyNotGive_14 (s3 c1) (J_iconst dX1_whyNotGive_15 jc_2 (J_icmp_le dX1_whyNotGive_16 (tgt := 21) (by decide) (fun c2 => (J_aload_n dX1_whyNotGive_21 rfl (J_getR (k := 3) jcl_X1 dX1_whyNotGive_22 wf_X1_21 hh.1 (Nat.le_of_ble_eq_true rfl) rfl rfl (J_iload_n dX1_whyNotGive_25 rfl (J_iald dX1_whyNotGive_26 hh.2.2.2.2 (s4 c1 c2) (s5 c1 c2) (J_if_ne dX1_whyNotGive_27 (tgt := 34) (by decide) (fun c3 => (J_iconst dX1_whyNotGive_34 jc_0 (J_iret dX1_whyNotGive_35 rfl (k1 c1 c2 c3)))) (fun c3 => (J_iconst dX1_whyNotGive_30 jc_5 (J_goto dX1_whyNotGive_31 (tgt := 35) (by decide) (J_iret dX1_whyNotGive_35 rfl (k2 c1 c2 c3))))))))))) (fun c2 => (J_iconst dX1_whyNotGive_19 jc_3 (J_iret dX1_whyNotGive_20 rfl (k3 c1 c2))))))))))))) (fun c1 => (J_iconst dX1_whyNotGive_5 jc_2 (J_iret dX1_whyNotGive_6 rfl (k4 c1)))))))
theorem b_X1_halvesOf_0 {l : Launch} {z d : Nat} {X : jX} {M : Nat → Int → Int} {Q : Option jV → jM → Prop} {x0 : Int}   (k1 : x0 ≠ 98 → Q (some (jI 1)) (jG, M)) (k2 : x0 = 98 → Q (some (jI 2)) (jG, M)) : J l z X d mX1_halvesOf (0, 0) 0 [jI x0] [] (jG, M) Q :=
  (J_iload_n dX1_halvesOf_0 rfl (J_bipush dX1_halvesOf_1 jc_98 jb_98 (J_icmp_ne dX1_halvesOf_3 (tgt := 10) (by decide) (fun c1 => (J_iconst dX1_halvesOf_10 jc_1 (J_iret dX1_halvesOf_11 rfl (k1 c1)))) (fun c1 => (J_iconst dX1_halvesOf_6 jc_2 (J_goto dX1_halvesOf_7 (tgt := 11) (by decide) (J_iret dX1_halvesOf_11 rfl (k2 c1))))))))
theorem b_X1_act_0 {l : Launch} {z d : Nat} {X : jX} {M : Nat → Int → Int} {Q : Option jV → jM → Prop} {h : Nat} {x1 : Int} {x2 : Int} {x3 : Int} (hh : jHi h)  (k1 : J l z X d mX1_whyNot (0, 0) 0 [jR h, jI x1, jI x2, jI x3, jN] [] (jG, M) (fun r μ => J l z X (d + 1) mX1_act (0, 0) 7 [jR h, jI x1, jI x2, jI x3] (r.toList ++ []) μ Q)) : J l z X (d + 1) mX1_act (0, 0) 0 [jR h, jI x1, jI x2, jI x3] [] (jG, M) Q :=
  (J_aload_n dX1_act_0 rfl (J_iload_n dX1_act_1 rfl (J_iload_n dX1_act_2 rfl (J_iload_n dX1_act_3 rfl (J_callV (a1 := (0, 0)) (a2 := (0, 0)) (mm' := mX1_whyNot) (S := []) [jI x1, jI x2, jI x3] md_X1_whyNot im_X1_whyNot se_X1_whyNot dX1_act_4 wm_X1_60 jcl_X1.1 rfl hh.1 rfl rfl (Nat.le_of_ble_eq_true rfl) (Nat.le_of_ble_eq_true rfl) rfl k1)))))
theorem b_X1_act_7 {l : Launch} {z d : Nat} {X : jX} {M : Nat → Int → Int} {Q : Option jV → jM → Prop} {h : Nat} {x1 : Int} {x2 : Int} {x3 : Int} {t0 : Int} (hh : jHi h) (s1 : t0 = 0 → x1 = 33 → jIn (1 - (M h 7))) (k1 : t0 = 0 → x1 ≠ 33 → x1 ≠ 46 → x1 ≠ 120 → x1 ≠ 62 → J l z X (d + 1) mX1_act (0, 0) 102 [jR h, jI x1, jI x2, jI x3] [] (jG, M) Q) (k2 : t0 = 0 → x1 ≠ 33 → x1 ≠ 46 → x1 ≠ 120 → x1 = 62 → J l z X d mX1_has (0, 0) 0 [jR h, jI x2] [] (jG, M) (fun r μ => J l z X (d + 1) mX1_act (0, 0) 68 [jR h, jI x1, jI x2, jI x3] (r.toList ++ []) μ Q)) (k3 : t0 = 0 → x1 ≠ 33 → x1 ≠ 46 → x1 = 120 → J l z X d mX1_drop (0, 0) 0 [jR h, jI x2] [] (jG, M) (fun r μ => J l z X (d + 1) mX1_act (0, 0) 54 [jR h, jI x1, jI x2, jI x3] (r.toList ++ []) μ Q)) (k4 : t0 = 0 → x1 ≠ 33 → x1 = 46 → J l z X d mX1_wake (0, 0) 0 [jR h, jN] [] (jG, M) (fun r μ => J l z X (d + 1) mX1_act (0, 0) 40 [jR h, jI x1, jI x2, jI x3] (r.toList ++ []) μ Q)) (k5 : t0 = 0 → x1 = 33 → Q none (jG, (jupd M h 7 (1 - (M h 7))))) (k6 : t0 ≠ 0 → Q none (jG, M)) : J l z X (d + 1) mX1_act (0, 0) 7 [jR h, jI x1, jI x2, jI x3] [jI t0] (jG, M) Q :=
  (J_if_eq dX1_act_7 (tgt := 11) (by decide) (fun c1 => (J_iload_n dX1_act_11 rfl (J_bipush dX1_act_12 jc_33 jb_33 (J_icmp_ne dX1_act_14 (tgt := 30) (by decide) (fun c2 => (J_iload_n dX1_act_30 rfl (J_bipush dX1_act_31 jc_46 jb_46 (J_icmp_ne dX1_act_33 (tgt := 43) (by decide) (fun c3 => (J_iload_n dX1_act_43 rfl (J_bipush dX1_act_44 jc_120 jb_120 (J_icmp_ne dX1_act_46 (tgt := 57) (by decide) (fun c4 => (J_iload_n dX1_act_57 rfl (J_bipush dX1_act_58 jc_62 jb_62 (J_icmp_ne dX1_act_60 (tgt := 102) (by decide) (fun c5 => (k1 c1 c2 c3 c4 c5)) (fun c5 => (J_aload_n dX1_act_63 rfl (J_iload_n dX1_act_64 rfl (J_callV (a1 := (0, 0)) (a2 := (0, 0)) (mm' := mX1_has) (S := []) [jI x2] md_X1_has im_X1_has se_X1_has dX1_act_65 wm_X1_40 jcl_X1.1 rfl hh.1 rfl rfl (Nat.le_of_ble_eq_true rfl) (Nat.le_of_ble_eq_true rfl) rfl (k2 c1 c2 c3 c4 c5))))))))) (fun c4 => (J_aload_n dX1_act_49 rfl (J_iload_n dX1_act_50 rfl (J_callV (a1 := (0, 0)) (a2 := (0, 0)) (mm' := mX1_drop) (S := []) [jI x2] md_X1_drop im_X1_drop se_X1_drop dX1_act_51 wm_X1_67 jcl_X1.1 rfl hh.1 rfl rfl (Nat.le_of_ble_eq_true rfl) (Nat.le_of_ble_eq_true rfl) rfl (k3 c1 c2 c3 c4))))))))) (fun c3 => (J_aload_n dX1_act_36 rfl (J_callV (a1 := (0, 0)) (a2 := (0, 0)) (mm' := mX1_wake) (S := []) [] md_X1_wake im_X1_wake se_X1_wake dX1_act_37 wm_X1_64 jcl_X1.1 rfl hh.1 rfl rfl (Nat.le_of_ble_eq_true rfl) (Nat.le_of_ble_eq_true rfl) rfl (k4 c1 c2 c3)))))))) (fun c2 => (J_aload_n dX1_act_17 rfl (J_iconst dX1_act_18 jc_1 (J_aload_n dX1_act_19 rfl (J_getI (k := 7) (kz := 7) jcl_X1 dX1_act_20 wf_X1_28 hh.1 (Nat.le_of_ble_eq_true rfl) rfl rfl (J_isub dX1_act_23 (s1 c1 c2) (J_putI (k := 7) (kz := 7) jcl_X1 dX1_act_24 wf_X1_28 hh.1 (Nat.le_of_ble_eq_true rfl) rfl rfl rfl (J_goto dX1_act_27 (tgt := 136) (by decide) (J_vret dX1_act_136 rfl (k5 c1 c2)))))))))))))) (fun c1 => (J_vret dX1_act_10 rfl (k6 c1))))
theorem b_X1_act_40 {l : Launch} {z d : Nat} {X : jX} {M : Nat → Int → Int} {Q : Option jV → jM → Prop} {h : Nat} {x1 : Int} {x2 : Int} {x3 : Int} (hh : jHi h)  (k1 : Q none (jG, M)) : J l z X d mX1_act (0, 0) 40 [jR h, jI x1, jI x2, jI x3] [] (jG, M) Q :=
  (J_goto dX1_act_40 (tgt := 136) (by decide) (J_vret dX1_act_136 rfl k1))
theorem b_X1_act_54 {l : Launch} {z d : Nat} {X : jX} {M : Nat → Int → Int} {Q : Option jV → jM → Prop} {h : Nat} {x1 : Int} {x2 : Int} {x3 : Int} (hh : jHi h)  (k1 : Q none (jG, M)) : J l z X d mX1_act (0, 0) 54 [jR h, jI x1, jI x2, jI x3] [] (jG, M) Q :=
  (J_goto dX1_act_54 (tgt := 136) (by decide) (J_vret dX1_act_136 rfl k1))
theorem b_X1_act_68 {l : Launch} {z d : Nat} {X : jX} {M : Nat → Int → Int} {Q : Option jV → jM → Prop} {h : Nat} {x1 : Int} {x2 : Int} {x3 : Int} {t0 : Int} (hh : jHi h)  (k1 : t0 = 0 → J l z X (d + 1) mX1_act (0, 0) 102 [jR h, jI x1, jI x2, jI x3] [] (jG, M) Q) (k2 : t0 ≠ 0 → J l z X d mX1_has (0, 0) 0 [jR h, jI x3] [] (jG, M) (fun r μ => J l z X (d + 1) mX1_act (0, 0) 76 [jR h, jI x1, jI x2, jI x3] (r.toList ++ []) μ Q)) : J l z X (d + 1) mX1_act (0, 0) 68 [jR h, jI x1, jI x2, jI x3] [jI t0] (jG, M) Q :=
  (J_if_eq dX1_act_68 (tgt := 102) (by decide) (fun c1 => (k1 c1)) (fun c1 => (J_aload_n dX1_act_71 rfl (J_iload_n dX1_act_72 rfl (J_callV (a1 := (0, 0)) (a2 := (0, 0)) (mm' := mX1_has) (S := []) [jI x3] md_X1_has im_X1_has se_X1_has dX1_act_73 wm_X1_40 jcl_X1.1 rfl hh.1 rfl rfl (Nat.le_of_ble_eq_true rfl) (Nat.le_of_ble_eq_true rfl) rfl (k2 c1))))))
theorem b_X1_act_76 {l : Launch} {z d : Nat} {X : jX} {M : Nat → Int → Int} {Q : Option jV → jM → Prop} {h : Nat} {x1 : Int} {x2 : Int} {x3 : Int} {t0 : Int} (hh : jHi h) (s1 : t0 ≠ 0 → 0 ≤ x2) (s2 : t0 ≠ 0 → x2 < 6) (s3 : t0 ≠ 0 → jIn ((M (h + 4) x2) - 1)) (s4 : t0 ≠ 0 → 0 ≤ x3) (s5 : t0 ≠ 0 → x3 < 6) (s6 : t0 ≠ 0 → jIn (((jupd M (h + 4) x2 ((M (h + 4) x2) - 1)) (h + 4) x3) + 1)) (k1 : t0 = 0 → J l z X d mX1_act (0, 0) 102 [jR h, jI x1, jI x2, jI x3] [] (jG, M) Q) (k2 : t0 ≠ 0 → Q none (jG, (jupd (jupd M (h + 4) x2 ((M (h + 4) x2) - 1)) (h + 4) x3 (((jupd M (h + 4) x2 ((M (h + 4) x2) - 1)) (h + 4) x3) + 1)))) : J l z X d mX1_act (0, 0) 76 [jR h, jI x1, jI x2, jI x3] [jI t0] (jG, M) Q :=
  (J_if_eq dX1_act_76 (tgt := 102) (by decide) (fun c1 => (k1 c1)) (fun c1 => (J_aload_n dX1_act_79 rfl (J_getR (k := 3) jcl_X1 dX1_act_80 wf_X1_21 hh.1 (Nat.le_of_ble_eq_true rfl) rfl rfl (J_iload_n dX1_act_83 rfl (J_dup2_RI dX1_act_84 (J_iald dX1_act_85 hh.2.2.2.2 (s1 c1) (s2 c1) (J_iconst dX1_act_86 jc_1 (J_isub dX1_act_87 (s3 c1) (J_iast dX1_act_88 hh.2.2.2.2 (s1 c1) (s2 c1) (J_aload_n dX1_act_89 rfl (J_getR (k := 3) jcl_X1 dX1_act_90 wf_X1_21 hh.1 (Nat.le_of_ble_eq_true rfl) rfl rfl (J_iload_n dX1_act_93 rfl (J_dup2_RI dX1_act_94 (J_iald dX1_act_95 hh.2.2.2.2 (s4 c1) (s5 c1) (J_iconst dX1_act_96 jc_1 (J_iadd dX1_act_97 (s6 c1) (J_iast dX1_act_98 hh.2.2.2.2 (s4 c1) (s5 c1) (J_goto dX1_act_99 (tgt := 136) (by decide) (J_vret dX1_act_136 rfl (k2 c1)))))))))))))))))))))
theorem b_X1_act_102 {l : Launch} {z d : Nat} {X : jX} {M : Nat → Int → Int} {Q : Option jV → jM → Prop} {h : Nat} {x1 : Int} {x2 : Int} {x3 : Int} (hh : jHi h)  (k1 : J l z X d mX1_has (0, 0) 0 [jR h, jI x2] [] (jG, M) (fun r μ => J l z X (d + 1) mX1_act (0, 0) 107 [jR h, jI x1, jI x2, jI x3] (r.toList ++ []) μ Q)) : J l z X (d + 1) mX1_act (0, 0) 102 [jR h, jI x1, jI x2, jI x3] [] (jG, M) Q :=
  (J_aload_n dX1_act_102 rfl (J_iload_n dX1_act_103 rfl (J_callV (a1 := (0, 0)) (a2 := (0, 0)) (mm' := mX1_has) (S := []) [jI x2] md_X1_has im_X1_has se_X1_has dX1_act_104 wm_X1_40 jcl_X1.1 rfl hh.1 rfl rfl (Nat.le_of_ble_eq_true rfl) (Nat.le_of_ble_eq_true rfl) rfl k1)))
theorem b_X1_act_107 {l : Launch} {z d : Nat} {X : jX} {M : Nat → Int → Int} {Q : Option jV → jM → Prop} {h : Nat} {x1 : Int} {x2 : Int} {x3 : Int} {t0 : Int} (hh : jHi h) (s1 : t0 ≠ 0 → 0 ≤ x2) (s2 : t0 ≠ 0 → x2 < 6) (k1 : t0 = 0 → Q none (jG, M)) (k2 : t0 ≠ 0 → J l z X d mX1_halvesOf (0, 0) 0 [jI x1] [] (jG, M) (fun r μ => J l z X (d + 1) mX1_act (0, 0) 121 [jR h, jI x1, jI x2, jI x3] (r.toList ++ [jI (M (h + 4) x2), jI x2, jR (h + 4)]) μ Q)) : J l z X (d + 1) mX1_act (0, 0) 107 [jR h, jI x1, jI x2, jI x3] [jI t0] (jG, M) Q :=
  (J_if_eq dX1_act_107 (tgt := 136) (by decide) (fun c1 => (J_vret dX1_act_136 rfl (k1 c1))) (fun c1 => (J_aload_n dX1_act_110 rfl (J_getR (k := 3) jcl_X1 dX1_act_111 wf_X1_21 hh.1 (Nat.le_of_ble_eq_true rfl) rfl rfl (J_iload_n dX1_act_114 rfl (J_dup2_RI dX1_act_115 (J_iald dX1_act_116 hh.2.2.2.2 (s1 c1) (s2 c1) (J_iload_n dX1_act_117 rfl (J_callS (a1 := (0, 0)) (a2 := (0, 0)) (mm' := mX1_halvesOf) (S := [jI (M (h + 4) x2), jI x2, jR (h + 4)]) [jI x1] md_X1_halvesOf is_X1_halvesOf dX1_act_118 wm_X1_57 rfl rfl (Nat.le_of_ble_eq_true rfl) (Nat.le_of_ble_eq_true rfl) rfl (k2 c1))))))))))
theorem b_X1_act_121 {l : Launch} {z d : Nat} {X : jX} {M : Nat → Int → Int} {Q : Option jV → jM → Prop} {h : Nat} {x1 : Int} {x2 : Int} {x3 : Int} {t1 : Int} {t2 : Int} {t3 : Int} (hh : jHi h) (s1 : jIn (t2 + t3)) (s2 : 0 ≤ t1) (s3 : t1 < 6) (k1 : J l z X d mX1_halvesOf (0, 0) 0 [jI x1] [] (jG, (jupd M (h + 4) t1 (t2 + t3))) (fun r μ => J l z X (d + 1) mX1_act (0, 0) 132 [jR h, jI x1, jI x2, jI x3] (r.toList ++ [jI ((jupd M (h + 4) t1 (t2 + t3)) h 5), jR h]) μ Q)) : J l z X (d + 1) mX1_act (0, 0) 121 [jR h, jI x1, jI x2, jI x3] [jI t3, jI t2, jI t1, jR (h + 4)] (jG, M) Q :=
  (J_iadd dX1_act_121 s1 (J_iast dX1_act_122 hh.2.2.2.2 s2 s3 (J_aload_n dX1_act_123 rfl (J_dupR dX1_act_124 (J_getI (k := 5) (kz := 5) jcl_X1 dX1_act_125 wf_X1_50 hh.1 (Nat.le_of_ble_eq_true rfl) rfl rfl (J_iload_n dX1_act_128 rfl (J_callS (a1 := (0, 0)) (a2 := (0, 0)) (mm' := mX1_halvesOf) (S := [jI ((jupd M (h + 4) t1 (t2 + t3)) h 5), jR h]) [jI x1] md_X1_halvesOf is_X1_halvesOf dX1_act_129 wm_X1_57 rfl rfl (Nat.le_of_ble_eq_true rfl) (Nat.le_of_ble_eq_true rfl) rfl k1)))))))
theorem b_X1_act_132 {l : Launch} {z d : Nat} {X : jX} {M : Nat → Int → Int} {Q : Option jV → jM → Prop} {h : Nat} {x1 : Int} {x2 : Int} {x3 : Int} {t1 : Int} {t2 : Int} (hh : jHi h) (s1 : jIn (t1 - t2)) (k1 : Q none (jG, (jupd M h 5 (t1 - t2)))) : J l z X d mX1_act (0, 0) 132 [jR h, jI x1, jI x2, jI x3] [jI t2, jI t1, jR h] (jG, M) Q :=
  (J_isub dX1_act_132 s1 (J_putI (k := 5) (kz := 5) jcl_X1 dX1_act_133 wf_X1_50 hh.1 (Nat.le_of_ble_eq_true rfl) rfl rfl rfl (J_vret dX1_act_136 rfl k1)))
theorem b_X1_wake_0 {l : Launch} {z d : Nat} {X : jX} {M : Nat → Int → Int} {Q : Option jV → jM → Prop} {h : Nat} (hh : jHi h)  (k1 : J l z X d mX1_wake (0, 0) 2 [jR h, jI 0] [] (jG, M) Q) : J l z X d mX1_wake (0, 0) 0 [jR h, jN] [] (jG, M) Q :=
  (J_iconst dX1_wake_0 jc_0 (J_istore_n dX1_wake_1 (Nat.le_of_ble_eq_true rfl) k1))
theorem b_X1_wake_2 {l : Launch} {z d : Nat} {X : jX} {M : Nat → Int → Int} {Q : Option jV → jM → Prop} {h : Nat} {x1 : Int} (hh : jHi h)  (k1 : 6 ≤ x1 → (M h 7) ≠ 1 → Q none (jG, (jupd M h 5 0))) (k2 : 6 ≤ x1 → (M h 7) = 1 → Q none (jG, (jupd M h 5 (M h 6)))) (k3 : x1 < 6 → J l z X d mX1_has (0, 0) 0 [jR h, jI x1] [] (jG, M) (fun r μ => J l z X (d + 1) mX1_wake (0, 0) 13 [jR h, jI x1] (r.toList ++ []) μ Q)) : J l z X (d + 1) mX1_wake (0, 0) 2 [jR h, jI x1] [] (jG, M) Q :=
  (J_iload_n dX1_wake_2 rfl (J_bipush dX1_wake_3 jc_6 jb_6 (J_icmp_ge dX1_wake_5 (tgt := 52) (by decide) (fun c1 => (J_aload_n dX1_wake_52 rfl (J_aload_n dX1_wake_53 rfl (J_getI (k := 7) (kz := 7) jcl_X1 dX1_wake_54 wf_X1_28 hh.1 (Nat.le_of_ble_eq_true rfl) rfl rfl (J_iconst dX1_wake_57 jc_1 (J_icmp_ne dX1_wake_58 (tgt := 68) (by decide) (fun c2 => (J_iconst dX1_wake_68 jc_0 (J_putI (k := 5) (kz := 5) jcl_X1 dX1_wake_69 wf_X1_50 hh.1 (Nat.le_of_ble_eq_true rfl) rfl rfl rfl (J_vret dX1_wake_72 rfl (k1 c1 c2))))) (fun c2 => (J_aload_n dX1_wake_61 rfl (J_getI (k := 6) (kz := 6) jcl_X1 dX1_wake_62 wf_X1_24 hh.1 (Nat.le_of_ble_eq_true rfl) rfl rfl (J_goto dX1_wake_65 (tgt := 69) (by decide) (J_putI (k := 5) (kz := 5) jcl_X1 dX1_wake_69 wf_X1_50 hh.1 (Nat.le_of_ble_eq_true rfl) rfl rfl rfl (J_vret dX1_wake_72 rfl (k2 c1 c2))))))))))))) (fun c1 => (J_aload_n dX1_wake_8 rfl (J_iload_n dX1_wake_9 rfl (J_callV (a1 := (0, 0)) (a2 := (0, 0)) (mm' := mX1_has) (S := []) [jI x1] md_X1_has im_X1_has se_X1_has dX1_wake_10 wm_X1_40 jcl_X1.1 rfl hh.1 rfl rfl (Nat.le_of_ble_eq_true rfl) (Nat.le_of_ble_eq_true rfl) rfl (k3 c1))))))))
theorem b_X1_wake_13 {l : Launch} {z d : Nat} {X : jX} {M : Nat → Int → Int} {Q : Option jV → jM → Prop} {h : Nat} {x1 : Int} {t0 : Int} (hh : jHi h) (s1 : t0 ≠ 0 → 0 ≤ x1) (s2 : t0 ≠ 0 → x1 < 6) (k1 : t0 = 0 → J l z X (d + 1) mX1_wake (0, 0) 46 [jR h, jI x1] [] (jG, M) Q) (k2 : t0 ≠ 0 → J l z X d mX1_aged (0, 0) 0 [jR h, jI x1, jI (M (h + 1) x1), jI (M (h + 4) x1)] [] (jG, M) (fun r μ => J l z X (d + 1) mX1_wake (0, 0) 38 [jR h, jI x1] (r.toList ++ [jI x1, jR (h + 1)]) μ Q)) : J l z X (d + 1) mX1_wake (0, 0) 13 [jR h, jI x1] [jI t0] (jG, M) Q :=
  (J_if_eq dX1_wake_13 (tgt := 46) (by decide) (fun c1 => (k1 c1)) (fun c1 => (J_aload_n dX1_wake_16 rfl (J_getR (k := 0) jcl_X1 dX1_wake_17 wf_X1_9 hh.1 (Nat.le_of_ble_eq_true rfl) rfl rfl (J_iload_n dX1_wake_20 rfl (J_aload_n dX1_wake_21 rfl (J_iload_n dX1_wake_22 rfl (J_aload_n dX1_wake_23 rfl (J_getR (k := 0) jcl_X1 dX1_wake_24 wf_X1_9 hh.1 (Nat.le_of_ble_eq_true rfl) rfl rfl (J_iload_n dX1_wake_27 rfl (J_iald dX1_wake_28 hh.2.1 (s1 c1) (s2 c1) (J_aload_n dX1_wake_29 rfl (J_getR (k := 3) jcl_X1 dX1_wake_30 wf_X1_21 hh.1 (Nat.le_of_ble_eq_true rfl) rfl rfl (J_iload_n dX1_wake_33 rfl (J_iald dX1_wake_34 hh.2.2.2.2 (s1 c1) (s2 c1) (J_callV (a1 := (0, 0)) (a2 := (0, 0)) (mm' := mX1_aged) (S := [jI x1, jR (h + 1)]) [jI x1, jI (M (h + 1) x1), jI (M (h + 4) x1)] md_X1_aged im_X1_aged se_X1_aged dX1_wake_35 wm_X1_71 jcl_X1.1 rfl hh.1 rfl rfl (Nat.le_of_ble_eq_true rfl) (Nat.le_of_ble_eq_true rfl) rfl (k2 c1)))))))))))))))))
theorem b_X1_wake_38 {l : Launch} {z d : Nat} {X : jX} {M : Nat → Int → Int} {Q : Option jV → jM → Prop} {h : Nat} {x1 : Int} {t1 : Int} {t2 : Int} (hh : jHi h) (s1 : 0 ≤ t1) (s2 : t1 < 6) (s3 : 0 ≤ x1) (s4 : x1 < 6) (k1 : J l z X d mX1_wake (0, 0) 46 [jR h, jI x1] [] (jG, (jupd (jupd M (h + 1) t1 t2) (h + 4) x1 0)) Q) : J l z X d mX1_wake (0, 0) 38 [jR h, jI x1] [jI t2, jI t1, jR (h + 1)] (jG, M) Q :=
  (J_iast dX1_wake_38 hh.2.1 s1 s2 (J_aload_n dX1_wake_39 rfl (J_getR (k := 3) jcl_X1 dX1_wake_40 wf_X1_21 hh.1 (Nat.le_of_ble_eq_true rfl) rfl rfl (J_iload_n dX1_wake_43 rfl (J_iconst dX1_wake_44 jc_0 (J_iast dX1_wake_45 hh.2.2.2.2 s3 s4 k1))))))
theorem b_X1_wake_46 {l : Launch} {z d : Nat} {X : jX} {M : Nat → Int → Int} {Q : Option jV → jM → Prop} {h : Nat} {x1 : Int} (hh : jHi h) (s1 : jIn (x1 + 1)) (k1 : J l z X d mX1_wake (0, 0) 2 [jR h, jI (x1 + 1)] [] (jG, M) Q) : J l z X d mX1_wake (0, 0) 46 [jR h, jI x1] [] (jG, M) Q :=
  (J_iinc dX1_wake_46 rfl jc_1 s1 (J_goto dX1_wake_49 (tgt := 2) (by decide) k1))
theorem b_X1_aged_0 {l : Launch} {z d : Nat} {X : jX} {M : Nat → Int → Int} {Q : Option jV → jM → Prop} {h : Nat} {x1 : Int} {x2 : Int} {x3 : Int} (hh : jHi h)  (k1 : J l z X d mX1_has (0, 0) 0 [jR h, jI x1] [] (jG, M) (fun r μ => J l z X (d + 1) mX1_aged (0, 0) 5 [jR h, jI x1, jI x2, jI x3] (r.toList ++ []) μ Q)) : J l z X (d + 1) mX1_aged (0, 0) 0 [jR h, jI x1, jI x2, jI x3] [] (jG, M) Q :=
  (J_aload_n dX1_aged_0 rfl (J_iload_n dX1_aged_1 rfl (J_callV (a1 := (0, 0)) (a2 := (0, 0)) (mm' := mX1_has) (S := []) [jI x1] md_X1_has im_X1_has se_X1_has dX1_aged_2 wm_X1_40 jcl_X1.1 rfl hh.1 rfl rfl (Nat.le_of_ble_eq_true rfl) (Nat.le_of_ble_eq_true rfl) rfl k1)))
theorem b_X1_aged_5 {l : Launch} {z d : Nat} {X : jX} {M : Nat → Int → Int} {Q : Option jV → jM → Prop} {h : Nat} {x1 : Int} {x2 : Int} {x3 : Int} {t0 : Int} (hh : jHi h) (s1 : t0 ≠ 0 → x3 ≠ 1 → x3 ≠ 0 → 0 ≤ x1) (s2 : t0 ≠ 0 → x3 ≠ 1 → x3 ≠ 0 → x1 < 6) (s3 : t0 ≠ 0 → x3 ≠ 1 → x3 ≠ 0 → jIn (x2 - (M (h + 2) x1))) (s4 : t0 ≠ 0 → x3 ≠ 1 → x3 = 0 → 0 ≤ x1) (s5 : t0 ≠ 0 → x3 ≠ 1 → x3 = 0 → x1 < 6) (s6 : t0 ≠ 0 → x3 ≠ 1 → x3 = 0 → jIn (x2 + (M (h + 2) x1))) (k1 : t0 = 0 → Q (some (jI x2)) (jG, M)) (k2 : t0 ≠ 0 → x3 ≠ 1 → x3 ≠ 0 → Q (some (jI (max (M (h + 3) x1) (x2 - (M (h + 2) x1))))) (jG, M)) (k3 : t0 ≠ 0 → x3 ≠ 1 → x3 = 0 → Q (some (jI (min 99 (x2 + (M (h + 2) x1))))) (jG, M)) (k4 : t0 ≠ 0 → x3 = 1 → Q (some (jI x2)) (jG, M)) : J l z X (d + 1) mX1_aged (0, 0) 5 [jR h, jI x1, jI x2, jI x3] [jI t0] (jG, M) Q :=
  (J_if_eq dX1_aged_5 (tgt := 13) (by decide) (fun c1 => (J_iload_n dX1_aged_13 rfl (J_iret dX1_aged_14 rfl (k1 c1)))) (fun c1 => (J_iload_n dX1_aged_8 rfl (J_iconst dX1_aged_9 jc_1 (J_icmp_ne dX1_aged_10 (tgt := 15) (by decide) (fun c2 => (J_iload_n dX1_aged_15 rfl (J_if_ne dX1_aged_16 (tgt := 35) (by decide) (fun c3 => (J_aload_n dX1_aged_35 rfl (J_getR (k := 2) jcl_X1 dX1_aged_36 wf_X1_18 hh.1 (Nat.le_of_ble_eq_true rfl) rfl rfl (J_iload_n dX1_aged_39 rfl (J_iald dX1_aged_40 hh.2.2.2.1 (s1 c1 c2 c3) (s2 c1 c2 c3) (J_iload_n dX1_aged_41 rfl (J_aload_n dX1_aged_42 rfl (J_getR (k := 1) jcl_X1 dX1_aged_43 wf_X1_15 hh.1 (Nat.le_of_ble_eq_true rfl) rfl rfl (J_iload_n dX1_aged_46 rfl (J_iald dX1_aged_47 hh.2.2.1 (s1 c1 c2 c3) (s2 c1 c2 c3) (J_isub dX1_aged_48 (s3 c1 c2 c3) (J_mmax dX1_aged_49 wm_X1_79 is_J9_max_7cf53 wi_J9 mc_J9_max_7cf53 (by omega) (Nat.le_of_ble_eq_true rfl) (J_iret dX1_aged_52 rfl (k2 c1 c2 c3)))))))))))))) (fun c3 => (J_bipush dX1_aged_19 jc_99 jb_99 (J_iload_n dX1_aged_21 rfl (J_aload_n dX1_aged_22 rfl (J_getR (k := 1) jcl_X1 dX1_aged_23 wf_X1_15 hh.1 (Nat.le_of_ble_eq_true rfl) rfl rfl (J_iload_n dX1_aged_26 rfl (J_iald dX1_aged_27 hh.2.2.1 (s4 c1 c2 c3) (s5 c1 c2 c3) (J_iadd dX1_aged_28 (s6 c1 c2 c3) (J_mmin dX1_aged_29 wm_X1_74 is_J9_min_7cf53 wi_J9 mc_J9_min_7cf53 (by omega) (Nat.le_of_ble_eq_true rfl) (J_goto dX1_aged_32 (tgt := 52) (by decide) (J_iret dX1_aged_52 rfl (k3 c1 c2 c3))))))))))))))) (fun c2 => (J_iload_n dX1_aged_13 rfl (J_iret dX1_aged_14 rfl (k4 c1 c2)))))))))
theorem b_X1_oldestOne_0 {l : Launch} {z d : Nat} {X : jX} {M : Nat → Int → Int} {Q : Option jV → jM → Prop} {h : Nat} (hh : jHi h)  (k1 : J l z X d mX1_oldestOne (0, 0) 7 [jR h, jI (-6), jI (-1), jI 0] [] (jG, M) Q) : J l z X d mX1_oldestOne (0, 0) 0 [jR h, jN, jN, jN] [] (jG, M) Q :=
  (J_bipush dX1_oldestOne_0 jc_m6 jb_m6 (J_istore_n dX1_oldestOne_2 (Nat.le_of_ble_eq_true rfl) (J_iconst dX1_oldestOne_3 jc_m1 (J_istore_n dX1_oldestOne_4 (Nat.le_of_ble_eq_true rfl) (J_iconst dX1_oldestOne_5 jc_0 (J_istore_n dX1_oldestOne_6 (Nat.le_of_ble_eq_true rfl) k1))))))
theorem b_X1_oldestOne_7 {l : Launch} {z d : Nat} {X : jX} {M : Nat → Int → Int} {Q : Option jV → jM → Prop} {h : Nat} {x1 : Int} {x2 : Int} {x3 : Int} (hh : jHi h)  (k1 : 6 ≤ x3 → Q (some (jI x1)) (jG, M)) (k2 : x3 < 6 → J l z X d mX1_has (0, 0) 0 [jR h, jI x3] [] (jG, M) (fun r μ => J l z X (d + 1) mX1_oldestOne (0, 0) 18 [jR h, jI x1, jI x2, jI x3] (r.toList ++ []) μ Q)) : J l z X (d + 1) mX1_oldestOne (0, 0) 7 [jR h, jI x1, jI x2, jI x3] [] (jG, M) Q :=
  (J_iload_n dX1_oldestOne_7 rfl (J_bipush dX1_oldestOne_8 jc_6 jb_6 (J_icmp_ge dX1_oldestOne_10 (tgt := 46) (by decide) (fun c1 => (J_iload_n dX1_oldestOne_46 rfl (J_iret dX1_oldestOne_47 rfl (k1 c1)))) (fun c1 => (J_aload_n dX1_oldestOne_13 rfl (J_iload_n dX1_oldestOne_14 rfl (J_callV (a1 := (0, 0)) (a2 := (0, 0)) (mm' := mX1_has) (S := []) [jI x3] md_X1_has im_X1_has se_X1_has dX1_oldestOne_15 wm_X1_40 jcl_X1.1 rfl hh.1 rfl rfl (Nat.le_of_ble_eq_true rfl) (Nat.le_of_ble_eq_true rfl) rfl (k2 c1))))))))
theorem b_X1_oldestOne_18 {l : Launch} {z d : Nat} {X : jX} {M : Nat → Int → Int} {Q : Option jV → jM → Prop} {h : Nat} {x1 : Int} {x2 : Int} {x3 : Int} {t0 : Int} (hh : jHi h) (s1 : t0 ≠ 0 → 0 ≤ x3) (s2 : t0 ≠ 0 → x3 < 6) (s3 : t0 ≠ 0 → x2 < (M (h + 1) x3) → 0 ≤ x3) (s4 : t0 ≠ 0 → x2 < (M (h + 1) x3) → x3 < 6) (k1 : t0 = 0 → J l z X d mX1_oldestOne (0, 0) 40 [jR h, jI x1, jI x2, jI x3] [] (jG, M) Q) (k2 : t0 ≠ 0 → (M (h + 1) x3) ≤ x2 → J l z X d mX1_oldestOne (0, 0) 40 [jR h, jI x1, jI x2, jI x3] [] (jG, M) Q) (k3 : t0 ≠ 0 → x2 < (M (h + 1) x3) → J l z X d mX1_oldestOne (0, 0) 40 [jR h, jI x3, jI (M (h + 1) x3), jI x3] [] (jG, M) Q) : J l z X d mX1_oldestOne (0, 0) 18 [jR h, jI x1, jI x2, jI x3] [jI t0] (jG, M) Q :=
  (J_if_eq dX1_oldestOne_18 (tgt := 40) (by decide) (fun c1 => (k1 c1)) (fun c1 => (J_aload_n dX1_oldestOne_21 rfl (J_getR (k := 0) jcl_X1 dX1_oldestOne_22 wf_X1_9 hh.1 (Nat.le_of_ble_eq_true rfl) rfl rfl (J_iload_n dX1_oldestOne_25 rfl (J_iald dX1_oldestOne_26 hh.2.1 (s1 c1) (s2 c1) (J_iload_n dX1_oldestOne_27 rfl (J_icmp_le dX1_oldestOne_28 (tgt := 40) (by decide) (fun c2 => (k2 c1 c2)) (fun c2 => (J_iload_n dX1_oldestOne_31 rfl (J_istore_n dX1_oldestOne_32 (Nat.le_of_ble_eq_true rfl) (J_aload_n dX1_oldestOne_33 rfl (J_getR (k := 0) jcl_X1 dX1_oldestOne_34 wf_X1_9 hh.1 (Nat.le_of_ble_eq_true rfl) rfl rfl (J_iload_n dX1_oldestOne_37 rfl (J_iald dX1_oldestOne_38 hh.2.1 (s3 c1 c2) (s4 c1 c2) (J_istore_n dX1_oldestOne_39 (Nat.le_of_ble_eq_true rfl) (k3 c1 c2)))))))))))))))))
theorem b_X1_oldestOne_40 {l : Launch} {z d : Nat} {X : jX} {M : Nat → Int → Int} {Q : Option jV → jM → Prop} {h : Nat} {x1 : Int} {x2 : Int} {x3 : Int} (hh : jHi h) (s1 : jIn (x3 + 1)) (k1 : J l z X d mX1_oldestOne (0, 0) 7 [jR h, jI x1, jI x2, jI (x3 + 1)] [] (jG, M) Q) : J l z X d mX1_oldestOne (0, 0) 40 [jR h, jI x1, jI x2, jI x3] [] (jG, M) Q :=
  (J_iinc dX1_oldestOne_40 rfl jc_1 s1 (J_goto dX1_oldestOne_43 (tgt := 7) (by decide) k1))
theorem b_X1_looksTogether_0 {l : Launch} {z d : Nat} {X : jX} {M : Nat → Int → Int} {Q : Option jV → jM → Prop} {h : Nat} (hh : jHi h)  (k1 : J l z X d mX1_looksTogether (0, 0) 4 [jR h, jI 0, jI 0] [] (jG, M) Q) : J l z X d mX1_looksTogether (0, 0) 0 [jR h, jN, jN] [] (jG, M) Q :=
  (J_iconst dX1_looksTogether_0 jc_0 (J_istore_n dX1_looksTogether_1 (Nat.le_of_ble_eq_true rfl) (J_iconst dX1_looksTogether_2 jc_0 (J_istore_n dX1_looksTogether_3 (Nat.le_of_ble_eq_true rfl) k1))))
theorem b_X1_looksTogether_4 {l : Launch} {z d : Nat} {X : jX} {M : Nat → Int → Int} {Q : Option jV → jM → Prop} {h : Nat} {x1 : Int} {x2 : Int} (hh : jHi h)  (k1 : 6 ≤ x2 → Q (some (jI x1)) (jG, M)) (k2 : x2 < 6 → J l z X d mX1_has (0, 0) 0 [jR h, jI x2] [] (jG, M) (fun r μ => J l z X (d + 1) mX1_looksTogether (0, 0) 16 [jR h, jI x1, jI x2] (r.toList ++ [jI x1]) μ Q)) : J l z X (d + 1) mX1_looksTogether (0, 0) 4 [jR h, jI x1, jI x2] [] (jG, M) Q :=
  (J_iload_n dX1_looksTogether_4 rfl (J_bipush dX1_looksTogether_5 jc_6 jb_6 (J_icmp_ge dX1_looksTogether_7 (tgt := 37) (by decide) (fun c1 => (J_iload_n dX1_looksTogether_37 rfl (J_iret dX1_looksTogether_38 rfl (k1 c1)))) (fun c1 => (J_iload_n dX1_looksTogether_10 rfl (J_aload_n dX1_looksTogether_11 rfl (J_iload_n dX1_looksTogether_12 rfl (J_callV (a1 := (0, 0)) (a2 := (0, 0)) (mm' := mX1_has) (S := [jI x1]) [jI x2] md_X1_has im_X1_has se_X1_has dX1_looksTogether_13 wm_X1_40 jcl_X1.1 rfl hh.1 rfl rfl (Nat.le_of_ble_eq_true rfl) (Nat.le_of_ble_eq_true rfl) rfl (k2 c1)))))))))
theorem b_X1_looksTogether_16 {l : Launch} {z d : Nat} {X : jX} {M : Nat → Int → Int} {Q : Option jV → jM → Prop} {h : Nat} {x1 : Int} {x2 : Int} {t0 : Int} {t1 : Int} (hh : jHi h) (s1 : t1 ≠ 0 → 0 ≤ x2) (s2 : t1 ≠ 0 → x2 < 6) (k1 : t1 = 0 → J l z X d mX1_looksTogether (0, 0) 29 [jR h, jI x1, jI x2] [jI 0, jI t0] (jG, M) Q) (k2 : t1 ≠ 0 → J l z X d mX1_looksTogether (0, 0) 29 [jR h, jI x1, jI x2] [jI (M (h + 1) x2), jI t0] (jG, M) Q) : J l z X d mX1_looksTogether (0, 0) 16 [jR h, jI x1, jI x2] [jI t1, jI t0] (jG, M) Q :=
  (J_if_eq dX1_looksTogether_16 (tgt := 28) (by decide) (fun c1 => (J_iconst dX1_looksTogether_28 jc_0 (k1 c1))) (fun c1 => (J_aload_n dX1_looksTogether_19 rfl (J_getR (k := 0) jcl_X1 dX1_looksTogether_20 wf_X1_9 hh.1 (Nat.le_of_ble_eq_true rfl) rfl rfl (J_iload_n dX1_looksTogether_23 rfl (J_iald dX1_looksTogether_24 hh.2.1 (s1 c1) (s2 c1) (J_goto dX1_looksTogether_25 (tgt := 29) (by decide) (k2 c1))))))))
theorem b_X1_looksTogether_29 {l : Launch} {z d : Nat} {X : jX} {M : Nat → Int → Int} {Q : Option jV → jM → Prop} {h : Nat} {x1 : Int} {x2 : Int} {t0 : Int} {t1 : Int} (hh : jHi h) (s1 : jIn (t0 + t1)) (s2 : jIn (x2 + 1)) (k1 : J l z X d mX1_looksTogether (0, 0) 4 [jR h, jI (t0 + t1), jI (x2 + 1)] [] (jG, M) Q) : J l z X d mX1_looksTogether (0, 0) 29 [jR h, jI x1, jI x2] [jI t1, jI t0] (jG, M) Q :=
  (J_iadd dX1_looksTogether_29 s1 (J_istore_n dX1_looksTogether_30 (Nat.le_of_ble_eq_true rfl) (J_iinc dX1_looksTogether_31 rfl jc_1 s2 (J_goto dX1_looksTogether_34 (tgt := 4) (by decide) k1))))
theorem b_J6_compare_7cf53_0 {l : Launch} {z d : Nat} {X : jX} {M : Nat → Int → Int} {Q : Option jV → jM → Prop} {x0 : Int} {x1 : Int}   (k1 : x1 ≤ x0 → x0 ≠ x1 → Q (some (jI 1)) (jG, M)) (k2 : x1 ≤ x0 → x0 = x1 → Q (some (jI 0)) (jG, M)) (k3 : x0 < x1 → Q (some (jI (-1))) (jG, M)) : J l z X d mJ6_compare_7cf53 (0, 0) 0 [jI x0, jI x1] [] (jG, M) Q :=
  (J_iload_n dJ6_compare_7cf53_0 rfl (J_iload_n dJ6_compare_7cf53_1 rfl (J_icmp_ge dJ6_compare_7cf53_2 (tgt := 9) (by decide) (fun c1 => (J_iload_n dJ6_compare_7cf53_9 rfl (J_iload_n dJ6_compare_7cf53_10 rfl (J_icmp_ne dJ6_compare_7cf53_11 (tgt := 18) (by decide) (fun c2 => (J_iconst dJ6_compare_7cf53_18 jc_1 (J_iret dJ6_compare_7cf53_19 rfl (k1 c1 c2)))) (fun c2 => (J_iconst dJ6_compare_7cf53_14 jc_0 (J_goto dJ6_compare_7cf53_15 (tgt := 19) (by decide) (J_iret dJ6_compare_7cf53_19 rfl (k2 c1 c2))))))))) (fun c1 => (J_iconst dJ6_compare_7cf53_5 jc_m1 (J_goto dJ6_compare_7cf53_6 (tgt := 19) (by decide) (J_iret dJ6_compare_7cf53_19 rfl (k3 c1))))))))
theorem b_J6_bitCount_0f7a4_0 {l : Launch} {z d : Nat} {X : jX} {M : Nat → Int → Int} {Q : Option jV → jM → Prop} {x0 : Int}  (s1 : jIn (x0 - (jand (jushr x0 1) 1431655765))) (s2 : jIn ((jand (x0 - (jand (jushr x0 1) 1431655765)) 858993459) + (jand (jushr (x0 - (jand (jushr x0 1) 1431655765)) 2) 858993459))) (s3 : jIn (((jand (x0 - (jand (jushr x0 1) 1431655765)) 858993459) + (jand (jushr (x0 - (jand (jushr x0 1) 1431655765)) 2) 858993459)) + (jushr ((jand (x0 - (jand (jushr x0 1) 1431655765)) 858993459) + (jand (jushr (x0 - (jand (jushr x0 1) 1431655765)) 2) 858993459)) 4))) (s4 : jIn ((jand (((jand (x0 - (jand (jushr x0 1) 1431655765)) 858993459) + (jand (jushr (x0 - (jand (jushr x0 1) 1431655765)) 2) 858993459)) + (jushr ((jand (x0 - (jand (jushr x0 1) 1431655765)) 858993459) + (jand (jushr (x0 - (jand (jushr x0 1) 1431655765)) 2) 858993459)) 4)) 252645135) + (jushr (jand (((jand (x0 - (jand (jushr x0 1) 1431655765)) 858993459) + (jand (jushr (x0 - (jand (jushr x0 1) 1431655765)) 2) 858993459)) + (jushr ((jand (x0 - (jand (jushr x0 1) 1431655765)) 858993459) + (jand (jushr (x0 - (jand (jushr x0 1) 1431655765)) 2) 858993459)) 4)) 252645135) 8))) (s5 : jIn (((jand (((jand (x0 - (jand (jushr x0 1) 1431655765)) 858993459) + (jand (jushr (x0 - (jand (jushr x0 1) 1431655765)) 2) 858993459)) + (jushr ((jand (x0 - (jand (jushr x0 1) 1431655765)) 858993459) + (jand (jushr (x0 - (jand (jushr x0 1) 1431655765)) 2) 858993459)) 4)) 252645135) + (jushr (jand (((jand (x0 - (jand (jushr x0 1) 1431655765)) 858993459) + (jand (jushr (x0 - (jand (jushr x0 1) 1431655765)) 2) 858993459)) + (jushr ((jand (x0 - (jand (jushr x0 1) 1431655765)) 858993459) + (jand (jushr (x0 - (jand (jushr x0 1) 1431655765)) 2) 858993459)) 4)) 252645135) 8)) + (jushr ((jand (((jand (x0 - (jand (jushr x0 1) 1431655765)) 858993459) + (jand (jushr (x0 - (jand (jushr x0 1) 1431655765)) 2) 858993459)) + (jushr ((jand (x0 - (jand (jushr x0 1) 1431655765)) 858993459) + (jand (jushr (x0 - (jand (jushr x0 1) 1431655765)) 2) 858993459)) 4)) 252645135) + (jushr (jand (((jand (x0 - (jand (jushr x0 1) 1431655765)) 858993459) + (jand (jushr (x0 - (jand (jushr x0 1) 1431655765)) 2) 858993459)) + (jushr ((jand (x0 - (jand (jushr x0 1) 1431655765)) 858993459) + (jand (jushr (x0 - (jand (jushr x0 1) 1431655765)) 2) 858993459)) 4)) 252645135) 8)) 16))) (k1 : Q (some (jI (jand (((jand (((jand (x0 - (jand (jushr x0 1) 1431655765)) 858993459) + (jand (jushr (x0 - (jand (jushr x0 1) 1431655765)) 2) 858993459)) + (jushr ((jand (x0 - (jand (jushr x0 1) 1431655765)) 858993459) + (jand (jushr (x0 - (jand (jushr x0 1) 1431655765)) 2) 858993459)) 4)) 252645135) + (jushr (jand (((jand (x0 - (jand (jushr x0 1) 1431655765)) 858993459) + (jand (jushr (x0 - (jand (jushr x0 1) 1431655765)) 2) 858993459)) + (jushr ((jand (x0 - (jand (jushr x0 1) 1431655765)) 858993459) + (jand (jushr (x0 - (jand (jushr x0 1) 1431655765)) 2) 858993459)) 4)) 252645135) 8)) + (jushr ((jand (((jand (x0 - (jand (jushr x0 1) 1431655765)) 858993459) + (jand (jushr (x0 - (jand (jushr x0 1) 1431655765)) 2) 858993459)) + (jushr ((jand (x0 - (jand (jushr x0 1) 1431655765)) 858993459) + (jand (jushr (x0 - (jand (jushr x0 1) 1431655765)) 2) 858993459)) 4)) 252645135) + (jushr (jand (((jand (x0 - (jand (jushr x0 1) 1431655765)) 858993459) + (jand (jushr (x0 - (jand (jushr x0 1) 1431655765)) 2) 858993459)) + (jushr ((jand (x0 - (jand (jushr x0 1) 1431655765)) 858993459) + (jand (jushr (x0 - (jand (jushr x0 1) 1431655765)) 2) 858993459)) 4)) 252645135) 8)) 16)) 63))) (jG, M)) : J l z X d mJ6_bitCount_0f7a4 (0, 0) 0 [jI x0] [] (jG, M) Q :=
  (J_iload_n dJ6_bitCount_0f7a4_0 rfl (J_iload_n dJ6_bitCount_0f7a4_1 rfl (J_iconst dJ6_bitCount_0f7a4_2 jc_1 (J_iushr dJ6_bitCount_0f7a4_3 (J_ldcw dJ6_bitCount_0f7a4_4 (lw_J6_265) lcl_J6_265 rfl (J_iand dJ6_bitCount_0f7a4_7 (J_isub dJ6_bitCount_0f7a4_8 s1 (J_istore_n dJ6_bitCount_0f7a4_9 (Nat.le_of_ble_eq_true rfl) (J_iload_n dJ6_bitCount_0f7a4_10 rfl (J_ldcw dJ6_bitCount_0f7a4_11 (lw_J6_266) lcl_J6_266 rfl (J_iand dJ6_bitCount_0f7a4_14 (J_iload_n dJ6_bitCount_0f7a4_15 rfl (J_iconst dJ6_bitCount_0f7a4_16 jc_2 (J_iushr dJ6_bitCount_0f7a4_17 (J_ldcw dJ6_bitCount_0f7a4_18 (lw_J6_266) lcl_J6_266 rfl (J_iand dJ6_bitCount_0f7a4_21 (J_iadd dJ6_bitCount_0f7a4_22 s2 (J_istore_n dJ6_bitCount_0f7a4_23 (Nat.le_of_ble_eq_true rfl) (J_iload_n dJ6_bitCount_0f7a4_24 rfl (J_iload_n dJ6_bitCount_0f7a4_25 rfl (J_iconst dJ6_bitCount_0f7a4_26 jc_4 (J_iushr dJ6_bitCount_0f7a4_27 (J_iadd dJ6_bitCount_0f7a4_28 s3 (J_ldcw dJ6_bitCount_0f7a4_29 (lw_J6_267) lcl_J6_267 rfl (J_iand dJ6_bitCount_0f7a4_32 (J_istore_n dJ6_bitCount_0f7a4_33 (Nat.le_of_ble_eq_true rfl) (J_iload_n dJ6_bitCount_0f7a4_34 rfl (J_iload_n dJ6_bitCount_0f7a4_35 rfl (J_bipush dJ6_bitCount_0f7a4_36 jc_8 jb_8 (J_iushr dJ6_bitCount_0f7a4_38 (J_iadd dJ6_bitCount_0f7a4_39 s4 (J_istore_n dJ6_bitCount_0f7a4_40 (Nat.le_of_ble_eq_true rfl) (J_iload_n dJ6_bitCount_0f7a4_41 rfl (J_iload_n dJ6_bitCount_0f7a4_42 rfl (J_bipush dJ6_bitCount_0f7a4_43 jc_16 jb_16 (J_iushr dJ6_bitCount_0f7a4_45 (J_iadd dJ6_bitCount_0f7a4_46 s5 (J_istore_n dJ6_bitCount_0f7a4_47 (Nat.le_of_ble_eq_true rfl) (J_iload_n dJ6_bitCount_0f7a4_48 rfl (J_bipush dJ6_bitCount_0f7a4_49 jc_63 jb_63 (J_iand dJ6_bitCount_0f7a4_51 (J_iret dJ6_bitCount_0f7a4_52 rfl k1))))))))))))))))))))))))))))))))))))))))))
end

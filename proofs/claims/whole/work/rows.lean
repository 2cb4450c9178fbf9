section
-- ===== PART A: goes FIRST, ahead of the names: the tables' words, and 'selects' of the private methods out of them =====
/-- a private method of a class that the tables say can be made, by its rows of tables_1 -/
def lw_okq (q : MethodName × Nat) : Prop := (q.1.cls ≠ "java/lang/invoke/MethodHandle" ∧ q.1.cls ≠ "java/lang/invoke/VarHandle") ∧ Cond.instantiable q.1.cls q.2 ∈ tables_1 ∧ Cond.privateMethod q.1 ∈ tables_1 ∧ Cond.instanceMethod q.1 ∈ tables_1
theorem lw_p0 : lw_okq (⟨"MorningBite$Pad", "addAct", "(III)V"⟩, 6) := ⟨⟨by decide +kernel, by decide +kernel⟩, List.mem_of_getElem? (i := 70) (by decide +kernel), List.mem_of_getElem? (i := 343) (by decide +kernel), List.mem_of_getElem? (i := 344) (by decide +kernel)⟩
theorem lw_p1 : lw_okq (⟨"MorningBite", "liveDays", "()I"⟩, 8) := ⟨⟨by decide +kernel, by decide +kernel⟩, List.mem_of_getElem? (i := 16) (by decide +kernel), List.mem_of_getElem? (i := 351) (by decide +kernel), List.mem_of_getElem? (i := 352) (by decide +kernel)⟩
theorem lw_p2 : lw_okq (⟨"MorningBite$Hill", "whyNotGive", "(II)I"⟩, 8) := ⟨⟨by decide +kernel, by decide +kernel⟩, List.mem_of_getElem? (i := 24) (by decide +kernel), List.mem_of_getElem? (i := 370) (by decide +kernel), List.mem_of_getElem? (i := 371) (by decide +kernel)⟩
theorem lw_p3 : lw_okq (⟨"MorningBite$Hill", "wake", "()V"⟩, 8) := ⟨⟨by decide +kernel, by decide +kernel⟩, List.mem_of_getElem? (i := 24) (by decide +kernel), List.mem_of_getElem? (i := 383) (by decide +kernel), List.mem_of_getElem? (i := 384) (by decide +kernel)⟩
theorem lw_p4 : lw_okq (⟨"MorningBite$Days", "tellMorning", "()V"⟩, 8) := ⟨⟨by decide +kernel, by decide +kernel⟩, List.mem_of_getElem? (i := 101) (by decide +kernel), List.mem_of_getElem? (i := 398) (by decide +kernel), List.mem_of_getElem? (i := 399) (by decide +kernel)⟩
theorem lw_p5 : lw_okq (⟨"MorningBite$Days", "leastPass", "()I"⟩, 8) := ⟨⟨by decide +kernel, by decide +kernel⟩, List.mem_of_getElem? (i := 101) (by decide +kernel), List.mem_of_getElem? (i := 402) (by decide +kernel), List.mem_of_getElem? (i := 403) (by decide +kernel)⟩
theorem lw_p6 : lw_okq (⟨"MorningBite$Days", "hasPassed", "(II)Z"⟩, 8) := ⟨⟨by decide +kernel, by decide +kernel⟩, List.mem_of_getElem? (i := 101) (by decide +kernel), List.mem_of_getElem? (i := 407) (by decide +kernel), List.mem_of_getElem? (i := 408) (by decide +kernel)⟩
theorem lw_p7 : lw_okq (⟨"MorningBite", "refuseKeeping", "(IIII)I"⟩, 8) := ⟨⟨by decide +kernel, by decide +kernel⟩, List.mem_of_getElem? (i := 16) (by decide +kernel), List.mem_of_getElem? (i := 447) (by decide +kernel), List.mem_of_getElem? (i := 448) (by decide +kernel)⟩
theorem lw_p8 : lw_okq (⟨"MorningBite$Keeper", "seat", "(LMorningBite$Hill;I)V"⟩, 11) := ⟨⟨by decide +kernel, by decide +kernel⟩, List.mem_of_getElem? (i := 141) (by decide +kernel), List.mem_of_getElem? (i := 458) (by decide +kernel), List.mem_of_getElem? (i := 459) (by decide +kernel)⟩
theorem lw_p9 : lw_okq (⟨"MorningBite$Keeper", "listAges", "(LMorningBite$Hill;)V"⟩, 11) := ⟨⟨by decide +kernel, by decide +kernel⟩, List.mem_of_getElem? (i := 141) (by decide +kernel), List.mem_of_getElem? (i := 463) (by decide +kernel), List.mem_of_getElem? (i := 464) (by decide +kernel)⟩
theorem lw_p10 : lw_okq (⟨"MorningBite$Keeper", "listNext", "(LMorningBite$Hill;II)V"⟩, 11) := ⟨⟨by decide +kernel, by decide +kernel⟩, List.mem_of_getElem? (i := 141) (by decide +kernel), List.mem_of_getElem? (i := 467) (by decide +kernel), List.mem_of_getElem? (i := 468) (by decide +kernel)⟩
theorem lw_p11 : lw_okq (⟨"MorningBite$Keeper", "lastsRest", "(LMorningBite$Hill;III)Z"⟩, 11) := ⟨⟨by decide +kernel, by decide +kernel⟩, List.mem_of_getElem? (i := 141) (by decide +kernel), List.mem_of_getElem? (i := 471) (by decide +kernel), List.mem_of_getElem? (i := 472) (by decide +kernel)⟩
theorem lw_p12 : lw_okq (⟨"MorningBite$Keeper", "findAge", "(II)I"⟩, 11) := ⟨⟨by decide +kernel, by decide +kernel⟩, List.mem_of_getElem? (i := 141) (by decide +kernel), List.mem_of_getElem? (i := 476) (by decide +kernel), List.mem_of_getElem? (i := 477) (by decide +kernel)⟩
theorem lw_p13 : lw_okq (⟨"MorningBite$Keeper", "countDay", "(I)V"⟩, 11) := ⟨⟨by decide +kernel, by decide +kernel⟩, List.mem_of_getElem? (i := 141) (by decide +kernel), List.mem_of_getElem? (i := 480) (by decide +kernel), List.mem_of_getElem? (i := 481) (by decide +kernel)⟩
theorem lw_p14 : lw_okq (⟨"MorningBite$Keeper", "countOf", "(II)I"⟩, 11) := ⟨⟨by decide +kernel, by decide +kernel⟩, List.mem_of_getElem? (i := 141) (by decide +kernel), List.mem_of_getElem? (i := 484) (by decide +kernel), List.mem_of_getElem? (i := 485) (by decide +kernel)⟩
theorem lw_p15 : lw_okq (⟨"MorningBite$Keeper", "bestMeals", "(IIII)I"⟩, 11) := ⟨⟨by decide +kernel, by decide +kernel⟩, List.mem_of_getElem? (i := 141) (by decide +kernel), List.mem_of_getElem? (i := 488) (by decide +kernel), List.mem_of_getElem? (i := 489) (by decide +kernel)⟩
def lw_privs_1 : List (MethodName × Nat) := [(⟨"MorningBite$Pad", "addAct", "(III)V"⟩, 6), (⟨"MorningBite", "liveDays", "()I"⟩, 8), (⟨"MorningBite$Hill", "whyNotGive", "(II)I"⟩, 8), (⟨"MorningBite$Hill", "wake", "()V"⟩, 8), (⟨"MorningBite$Days", "tellMorning", "()V"⟩, 8), (⟨"MorningBite$Days", "leastPass", "()I"⟩, 8), (⟨"MorningBite$Days", "hasPassed", "(II)Z"⟩, 8), (⟨"MorningBite", "refuseKeeping", "(IIII)I"⟩, 8), (⟨"MorningBite$Keeper", "seat", "(LMorningBite$Hill;I)V"⟩, 11), (⟨"MorningBite$Keeper", "listAges", "(LMorningBite$Hill;)V"⟩, 11), (⟨"MorningBite$Keeper", "listNext", "(LMorningBite$Hill;II)V"⟩, 11), (⟨"MorningBite$Keeper", "lastsRest", "(LMorningBite$Hill;III)Z"⟩, 11), (⟨"MorningBite$Keeper", "findAge", "(II)I"⟩, 11), (⟨"MorningBite$Keeper", "countDay", "(I)V"⟩, 11), (⟨"MorningBite$Keeper", "countOf", "(II)I"⟩, 11), (⟨"MorningBite$Keeper", "bestMeals", "(IIII)I"⟩, 11)]
theorem lw_r1 : ∀ q ∈ lw_privs_1, lw_okq q := List.forall_mem_cons.mpr ⟨lw_p0, List.forall_mem_cons.mpr ⟨lw_p1, List.forall_mem_cons.mpr ⟨lw_p2, List.forall_mem_cons.mpr ⟨lw_p3, List.forall_mem_cons.mpr ⟨lw_p4, List.forall_mem_cons.mpr ⟨lw_p5, List.forall_mem_cons.mpr ⟨lw_p6, List.forall_mem_cons.mpr ⟨lw_p7, List.forall_mem_cons.mpr ⟨lw_p8, List.forall_mem_cons.mpr ⟨lw_p9, List.forall_mem_cons.mpr ⟨lw_p10, List.forall_mem_cons.mpr ⟨lw_p11, List.forall_mem_cons.mpr ⟨lw_p12, List.forall_mem_cons.mpr ⟨lw_p13, List.forall_mem_cons.mpr ⟨lw_p14, List.forall_mem_cons.mpr ⟨lw_p15, fun _ h => absurd h List.not_mem_nil⟩⟩⟩⟩⟩⟩⟩⟩⟩⟩⟩⟩⟩⟩⟩⟩
theorem lw_p16 : lw_okq (⟨"MorningBite$Keeper", "next", "(IIII)I"⟩, 11) := ⟨⟨by decide +kernel, by decide +kernel⟩, List.mem_of_getElem? (i := 141) (by decide +kernel), List.mem_of_getElem? (i := 492) (by decide +kernel), List.mem_of_getElem? (i := 493) (by decide +kernel)⟩
theorem lw_p17 : lw_okq (⟨"MorningBite$Keeper", "fewestFrom", "(IIII)I"⟩, 11) := ⟨⟨by decide +kernel, by decide +kernel⟩, List.mem_of_getElem? (i := 141) (by decide +kernel), List.mem_of_getElem? (i := 496) (by decide +kernel), List.mem_of_getElem? (i := 497) (by decide +kernel)⟩
theorem lw_p18 : lw_okq (⟨"MorningBite$Keeper", "walk", "()V"⟩, 11) := ⟨⟨by decide +kernel, by decide +kernel⟩, List.mem_of_getElem? (i := 141) (by decide +kernel), List.mem_of_getElem? (i := 508) (by decide +kernel), List.mem_of_getElem? (i := 509) (by decide +kernel)⟩
theorem lw_p19 : lw_okq (⟨"MorningBite$Shares", "share", "(LMorningBite$Hill;III)V"⟩, 3) := ⟨⟨by decide +kernel, by decide +kernel⟩, List.mem_of_getElem? (i := 183) (by decide +kernel), List.mem_of_getElem? (i := 520) (by decide +kernel), List.mem_of_getElem? (i := 521) (by decide +kernel)⟩
theorem lw_p20 : lw_okq (⟨"MorningBite$Shares", "addShare", "(II)V"⟩, 3) := ⟨⟨by decide +kernel, by decide +kernel⟩, List.mem_of_getElem? (i := 183) (by decide +kernel), List.mem_of_getElem? (i := 524) (by decide +kernel), List.mem_of_getElem? (i := 525) (by decide +kernel)⟩
theorem lw_p21 : lw_okq (⟨"MorningBite$Shares", "envies", "(LMorningBite$Hill;I)Z"⟩, 3) := ⟨⟨by decide +kernel, by decide +kernel⟩, List.mem_of_getElem? (i := 183) (by decide +kernel), List.mem_of_getElem? (i := 530) (by decide +kernel), List.mem_of_getElem? (i := 531) (by decide +kernel)⟩
theorem lw_p22 : lw_okq (⟨"MorningBite$Shares", "wronged", "(LMorningBite$Hill;II)Z"⟩, 3) := ⟨⟨by decide +kernel, by decide +kernel⟩, List.mem_of_getElem? (i := 183) (by decide +kernel), List.mem_of_getElem? (i := 534) (by decide +kernel), List.mem_of_getElem? (i := 535) (by decide +kernel)⟩
theorem lw_p23 : lw_okq (⟨"MorningBite$Sights", "fits", "(LMorningBite$Hill;I)Z"⟩, 3) := ⟨⟨by decide +kernel, by decide +kernel⟩, List.mem_of_getElem? (i := 201) (by decide +kernel), List.mem_of_getElem? (i := 565) (by decide +kernel), List.mem_of_getElem? (i := 566) (by decide +kernel)⟩
theorem lw_p24 : lw_okq (⟨"MorningBite", "toldOf", "(II)I"⟩, 8) := ⟨⟨by decide +kernel, by decide +kernel⟩, List.mem_of_getElem? (i := 16) (by decide +kernel), List.mem_of_getElem? (i := 657) (by decide +kernel), List.mem_of_getElem? (i := 658) (by decide +kernel)⟩
theorem lw_p25 : lw_okq (⟨"MorningBiteModel", "isOne", "(I)Z"⟩, 38) := ⟨⟨by decide +kernel, by decide +kernel⟩, List.mem_of_getElem? (i := 661) (by decide +kernel), List.mem_of_getElem? (i := 802) (by decide +kernel), List.mem_of_getElem? (i := 803) (by decide +kernel)⟩
theorem lw_p26 : lw_okq (⟨"MorningBiteModel", "readOn", "(II)I"⟩, 38) := ⟨⟨by decide +kernel, by decide +kernel⟩, List.mem_of_getElem? (i := 661) (by decide +kernel), List.mem_of_getElem? (i := 826) (by decide +kernel), List.mem_of_getElem? (i := 827) (by decide +kernel)⟩
theorem lw_p27 : lw_okq (⟨"MorningBiteModel", "close", "(II)I"⟩, 38) := ⟨⟨by decide +kernel, by decide +kernel⟩, List.mem_of_getElem? (i := 661) (by decide +kernel), List.mem_of_getElem? (i := 835) (by decide +kernel), List.mem_of_getElem? (i := 836) (by decide +kernel)⟩
theorem lw_p28 : lw_okq (⟨"MorningBiteModel", "refusal", "()I"⟩, 38) := ⟨⟨by decide +kernel, by decide +kernel⟩, List.mem_of_getElem? (i := 661) (by decide +kernel), List.mem_of_getElem? (i := 843) (by decide +kernel), List.mem_of_getElem? (i := 844) (by decide +kernel)⟩
theorem lw_p29 : lw_okq (⟨"MorningBiteModel", "keepNow", "()V"⟩, 38) := ⟨⟨by decide +kernel, by decide +kernel⟩, List.mem_of_getElem? (i := 661) (by decide +kernel), List.mem_of_getElem? (i := 847) (by decide +kernel), List.mem_of_getElem? (i := 848) (by decide +kernel)⟩
theorem lw_p30 : lw_okq (⟨"MorningBiteModel", "goDays", "()V"⟩, 38) := ⟨⟨by decide +kernel, by decide +kernel⟩, List.mem_of_getElem? (i := 661) (by decide +kernel), List.mem_of_getElem? (i := 852) (by decide +kernel), List.mem_of_getElem? (i := 853) (by decide +kernel)⟩
theorem lw_p31 : lw_okq (⟨"MorningBiteModel", "beginCount", "()V"⟩, 38) := ⟨⟨by decide +kernel, by decide +kernel⟩, List.mem_of_getElem? (i := 661) (by decide +kernel), List.mem_of_getElem? (i := 856) (by decide +kernel), List.mem_of_getElem? (i := 857) (by decide +kernel)⟩
def lw_privs_2 : List (MethodName × Nat) := [(⟨"MorningBite$Keeper", "next", "(IIII)I"⟩, 11), (⟨"MorningBite$Keeper", "fewestFrom", "(IIII)I"⟩, 11), (⟨"MorningBite$Keeper", "walk", "()V"⟩, 11), (⟨"MorningBite$Shares", "share", "(LMorningBite$Hill;III)V"⟩, 3), (⟨"MorningBite$Shares", "addShare", "(II)V"⟩, 3), (⟨"MorningBite$Shares", "envies", "(LMorningBite$Hill;I)Z"⟩, 3), (⟨"MorningBite$Shares", "wronged", "(LMorningBite$Hill;II)Z"⟩, 3), (⟨"MorningBite$Sights", "fits", "(LMorningBite$Hill;I)Z"⟩, 3), (⟨"MorningBite", "toldOf", "(II)I"⟩, 8), (⟨"MorningBiteModel", "isOne", "(I)Z"⟩, 38), (⟨"MorningBiteModel", "readOn", "(II)I"⟩, 38), (⟨"MorningBiteModel", "close", "(II)I"⟩, 38), (⟨"MorningBiteModel", "refusal", "()I"⟩, 38), (⟨"MorningBiteModel", "keepNow", "()V"⟩, 38), (⟨"MorningBiteModel", "goDays", "()V"⟩, 38), (⟨"MorningBiteModel", "beginCount", "()V"⟩, 38)]
theorem lw_r2 : ∀ q ∈ lw_privs_2, lw_okq q := List.forall_mem_cons.mpr ⟨lw_p16, List.forall_mem_cons.mpr ⟨lw_p17, List.forall_mem_cons.mpr ⟨lw_p18, List.forall_mem_cons.mpr ⟨lw_p19, List.forall_mem_cons.mpr ⟨lw_p20, List.forall_mem_cons.mpr ⟨lw_p21, List.forall_mem_cons.mpr ⟨lw_p22, List.forall_mem_cons.mpr ⟨lw_p23, List.forall_mem_cons.mpr ⟨lw_p24, List.forall_mem_cons.mpr ⟨lw_p25, List.forall_mem_cons.mpr ⟨lw_p26, List.forall_mem_cons.mpr ⟨lw_p27, List.forall_mem_cons.mpr ⟨lw_p28, List.forall_mem_cons.mpr ⟨lw_p29, List.forall_mem_cons.mpr ⟨lw_p30, List.forall_mem_cons.mpr ⟨lw_p31, fun _ h => absurd h List.not_mem_nil⟩⟩⟩⟩⟩⟩⟩⟩⟩⟩⟩⟩⟩⟩⟩⟩
theorem lw_p32 : lw_okq (⟨"MorningBiteModel", "whyNot", "(III)I"⟩, 38) := ⟨⟨by decide +kernel, by decide +kernel⟩, List.mem_of_getElem? (i := 661) (by decide +kernel), List.mem_of_getElem? (i := 860) (by decide +kernel), List.mem_of_getElem? (i := 861) (by decide +kernel)⟩
theorem lw_p33 : lw_okq (⟨"MorningBiteModel", "whyNotGive", "(II)I"⟩, 38) := ⟨⟨by decide +kernel, by decide +kernel⟩, List.mem_of_getElem? (i := 661) (by decide +kernel), List.mem_of_getElem? (i := 864) (by decide +kernel), List.mem_of_getElem? (i := 865) (by decide +kernel)⟩
theorem lw_p34 : lw_okq (⟨"MorningBiteModel", "happen", "(III)V"⟩, 38) := ⟨⟨by decide +kernel, by decide +kernel⟩, List.mem_of_getElem? (i := 661) (by decide +kernel), List.mem_of_getElem? (i := 868) (by decide +kernel), List.mem_of_getElem? (i := 869) (by decide +kernel)⟩
theorem lw_p35 : lw_okq (⟨"MorningBiteModel", "eat", "(II)V"⟩, 38) := ⟨⟨by decide +kernel, by decide +kernel⟩, List.mem_of_getElem? (i := 661) (by decide +kernel), List.mem_of_getElem? (i := 872) (by decide +kernel), List.mem_of_getElem? (i := 873) (by decide +kernel)⟩
theorem lw_p36 : lw_okq (⟨"MorningBiteModel", "passMorning", "()V"⟩, 38) := ⟨⟨by decide +kernel, by decide +kernel⟩, List.mem_of_getElem? (i := 661) (by decide +kernel), List.mem_of_getElem? (i := 876) (by decide +kernel), List.mem_of_getElem? (i := 877) (by decide +kernel)⟩
theorem lw_p37 : lw_okq (⟨"MorningBiteModel", "lookBehind", "(III)I"⟩, 38) := ⟨⟨by decide +kernel, by decide +kernel⟩, List.mem_of_getElem? (i := 661) (by decide +kernel), List.mem_of_getElem? (i := 880) (by decide +kernel), List.mem_of_getElem? (i := 881) (by decide +kernel)⟩
theorem lw_p38 : lw_okq (⟨"MorningBiteModel", "passing", "()I"⟩, 38) := ⟨⟨by decide +kernel, by decide +kernel⟩, List.mem_of_getElem? (i := 661) (by decide +kernel), List.mem_of_getElem? (i := 884) (by decide +kernel), List.mem_of_getElem? (i := 885) (by decide +kernel)⟩
theorem lw_p39 : lw_okq (⟨"MorningBiteModel", "oldestNow", "()I"⟩, 38) := ⟨⟨by decide +kernel, by decide +kernel⟩, List.mem_of_getElem? (i := 661) (by decide +kernel), List.mem_of_getElem? (i := 888) (by decide +kernel), List.mem_of_getElem? (i := 889) (by decide +kernel)⟩
theorem lw_p40 : lw_okq (⟨"MorningBiteModel", "back", "(I)I"⟩, 38) := ⟨⟨by decide +kernel, by decide +kernel⟩, List.mem_of_getElem? (i := 661) (by decide +kernel), List.mem_of_getElem? (i := 892) (by decide +kernel), List.mem_of_getElem? (i := 893) (by decide +kernel)⟩
theorem lw_p41 : lw_okq (⟨"MorningBiteModel", "planRefusal", "(IIII)I"⟩, 38) := ⟨⟨by decide +kernel, by decide +kernel⟩, List.mem_of_getElem? (i := 661) (by decide +kernel), List.mem_of_getElem? (i := 924) (by decide +kernel), List.mem_of_getElem? (i := 925) (by decide +kernel)⟩
theorem lw_p42 : lw_okq (⟨"MorningBiteModel", "findPlan", "(IIII)V"⟩, 38) := ⟨⟨by decide +kernel, by decide +kernel⟩, List.mem_of_getElem? (i := 661) (by decide +kernel), List.mem_of_getElem? (i := 930) (by decide +kernel), List.mem_of_getElem? (i := 931) (by decide +kernel)⟩
theorem lw_p43 : lw_okq (⟨"MorningBiteModel", "layAges", "(III)V"⟩, 38) := ⟨⟨by decide +kernel, by decide +kernel⟩, List.mem_of_getElem? (i := 661) (by decide +kernel), List.mem_of_getElem? (i := 934) (by decide +kernel), List.mem_of_getElem? (i := 935) (by decide +kernel)⟩
theorem lw_p44 : lw_okq (⟨"MorningBiteModel", "layAgeThen", "(IIII)V"⟩, 38) := ⟨⟨by decide +kernel, by decide +kernel⟩, List.mem_of_getElem? (i := 661) (by decide +kernel), List.mem_of_getElem? (i := 938) (by decide +kernel), List.mem_of_getElem? (i := 939) (by decide +kernel)⟩
theorem lw_p45 : lw_okq (⟨"MorningBiteModel", "ageAt", "(II)I"⟩, 38) := ⟨⟨by decide +kernel, by decide +kernel⟩, List.mem_of_getElem? (i := 661) (by decide +kernel), List.mem_of_getElem? (i := 942) (by decide +kernel), List.mem_of_getElem? (i := 943) (by decide +kernel)⟩
theorem lw_p46 : lw_okq (⟨"MorningBiteModel", "layHalves", "(II)V"⟩, 38) := ⟨⟨by decide +kernel, by decide +kernel⟩, List.mem_of_getElem? (i := 661) (by decide +kernel), List.mem_of_getElem? (i := 946) (by decide +kernel), List.mem_of_getElem? (i := 947) (by decide +kernel)⟩
theorem lw_p47 : lw_okq (⟨"MorningBiteModel", "manyAt", "(II)I"⟩, 38) := ⟨⟨by decide +kernel, by decide +kernel⟩, List.mem_of_getElem? (i := 661) (by decide +kernel), List.mem_of_getElem? (i := 950) (by decide +kernel), List.mem_of_getElem? (i := 951) (by decide +kernel)⟩
def lw_privs_3 : List (MethodName × Nat) := [(⟨"MorningBiteModel", "whyNot", "(III)I"⟩, 38), (⟨"MorningBiteModel", "whyNotGive", "(II)I"⟩, 38), (⟨"MorningBiteModel", "happen", "(III)V"⟩, 38), (⟨"MorningBiteModel", "eat", "(II)V"⟩, 38), (⟨"MorningBiteModel", "passMorning", "()V"⟩, 38), (⟨"MorningBiteModel", "lookBehind", "(III)I"⟩, 38), (⟨"MorningBiteModel", "passing", "()I"⟩, 38), (⟨"MorningBiteModel", "oldestNow", "()I"⟩, 38), (⟨"MorningBiteModel", "back", "(I)I"⟩, 38), (⟨"MorningBiteModel", "planRefusal", "(IIII)I"⟩, 38), (⟨"MorningBiteModel", "findPlan", "(IIII)V"⟩, 38), (⟨"MorningBiteModel", "layAges", "(III)V"⟩, 38), (⟨"MorningBiteModel", "layAgeThen", "(IIII)V"⟩, 38), (⟨"MorningBiteModel", "ageAt", "(II)I"⟩, 38), (⟨"MorningBiteModel", "layHalves", "(II)V"⟩, 38), (⟨"MorningBiteModel", "manyAt", "(II)I"⟩, 38)]
theorem lw_r3 : ∀ q ∈ lw_privs_3, lw_okq q := List.forall_mem_cons.mpr ⟨lw_p32, List.forall_mem_cons.mpr ⟨lw_p33, List.forall_mem_cons.mpr ⟨lw_p34, List.forall_mem_cons.mpr ⟨lw_p35, List.forall_mem_cons.mpr ⟨lw_p36, List.forall_mem_cons.mpr ⟨lw_p37, List.forall_mem_cons.mpr ⟨lw_p38, List.forall_mem_cons.mpr ⟨lw_p39, List.forall_mem_cons.mpr ⟨lw_p40, List.forall_mem_cons.mpr ⟨lw_p41, List.forall_mem_cons.mpr ⟨lw_p42, List.forall_mem_cons.mpr ⟨lw_p43, List.forall_mem_cons.mpr ⟨lw_p44, List.forall_mem_cons.mpr ⟨lw_p45, List.forall_mem_cons.mpr ⟨lw_p46, List.forall_mem_cons.mpr ⟨lw_p47, fun _ h => absurd h List.not_mem_nil⟩⟩⟩⟩⟩⟩⟩⟩⟩⟩⟩⟩⟩⟩⟩⟩
theorem lw_p48 : lw_okq (⟨"MorningBiteModel", "halvesBy", "(IIIIII)I"⟩, 38) := ⟨⟨by decide +kernel, by decide +kernel⟩, List.mem_of_getElem? (i := 661) (by decide +kernel), List.mem_of_getElem? (i := 954) (by decide +kernel), List.mem_of_getElem? (i := 955) (by decide +kernel)⟩
theorem lw_p49 : lw_okq (⟨"MorningBiteModel", "thenOf", "(IIII)I"⟩, 38) := ⟨⟨by decide +kernel, by decide +kernel⟩, List.mem_of_getElem? (i := 661) (by decide +kernel), List.mem_of_getElem? (i := 961) (by decide +kernel), List.mem_of_getElem? (i := 962) (by decide +kernel)⟩
theorem lw_p50 : lw_okq (⟨"MorningBiteModel", "firstHow", "(III)I"⟩, 38) := ⟨⟨by decide +kernel, by decide +kernel⟩, List.mem_of_getElem? (i := 661) (by decide +kernel), List.mem_of_getElem? (i := 972) (by decide +kernel), List.mem_of_getElem? (i := 973) (by decide +kernel)⟩
theorem lw_p51 : lw_okq (⟨"MorningBiteModel", "shareOf", "(II)I"⟩, 38) := ⟨⟨by decide +kernel, by decide +kernel⟩, List.mem_of_getElem? (i := 661) (by decide +kernel), List.mem_of_getElem? (i := 981) (by decide +kernel), List.mem_of_getElem? (i := 982) (by decide +kernel)⟩
theorem lw_p52 : lw_okq (⟨"MorningBiteModel", "isEnvyless", "()Z"⟩, 38) := ⟨⟨by decide +kernel, by decide +kernel⟩, List.mem_of_getElem? (i := 661) (by decide +kernel), List.mem_of_getElem? (i := 985) (by decide +kernel), List.mem_of_getElem? (i := 986) (by decide +kernel)⟩
theorem lw_p53 : lw_okq (⟨"MorningBiteModel", "givers", "()I"⟩, 38) := ⟨⟨by decide +kernel, by decide +kernel⟩, List.mem_of_getElem? (i := 661) (by decide +kernel), List.mem_of_getElem? (i := 1006) (by decide +kernel), List.mem_of_getElem? (i := 1007) (by decide +kernel)⟩
theorem lw_p54 : lw_okq (⟨"MorningBiteModel", "fits", "(I)Z"⟩, 38) := ⟨⟨by decide +kernel, by decide +kernel⟩, List.mem_of_getElem? (i := 661) (by decide +kernel), List.mem_of_getElem? (i := 1010) (by decide +kernel), List.mem_of_getElem? (i := 1011) (by decide +kernel)⟩
theorem lw_p55 : lw_okq (⟨"MorningBiteModel", "lookedBy", "(II)I"⟩, 38) := ⟨⟨by decide +kernel, by decide +kernel⟩, List.mem_of_getElem? (i := 661) (by decide +kernel), List.mem_of_getElem? (i := 1014) (by decide +kernel), List.mem_of_getElem? (i := 1015) (by decide +kernel)⟩
theorem lw_p56 : lw_okq (⟨"MorningBiteModel", "mostAlike", "(II)I"⟩, 38) := ⟨⟨by decide +kernel, by decide +kernel⟩, List.mem_of_getElem? (i := 661) (by decide +kernel), List.mem_of_getElem? (i := 1022) (by decide +kernel), List.mem_of_getElem? (i := 1023) (by decide +kernel)⟩
theorem lw_p57 : lw_okq (⟨"MorningBiteModel", "wormyDay", "(II)V"⟩, 38) := ⟨⟨by decide +kernel, by decide +kernel⟩, List.mem_of_getElem? (i := 661) (by decide +kernel), List.mem_of_getElem? (i := 1038) (by decide +kernel), List.mem_of_getElem? (i := 1039) (by decide +kernel)⟩
theorem lw_p58 : lw_okq (⟨"MorningBiteModel", "passAll", "()V"⟩, 38) := ⟨⟨by decide +kernel, by decide +kernel⟩, List.mem_of_getElem? (i := 661) (by decide +kernel), List.mem_of_getElem? (i := 1057) (by decide +kernel), List.mem_of_getElem? (i := 1058) (by decide +kernel)⟩
theorem lw_p59 : lw_okq (⟨"MorningBiteModel", "pass", "(I)I"⟩, 38) := ⟨⟨by decide +kernel, by decide +kernel⟩, List.mem_of_getElem? (i := 661) (by decide +kernel), List.mem_of_getElem? (i := 1061) (by decide +kernel), List.mem_of_getElem? (i := 1062) (by decide +kernel)⟩
theorem lw_p60 : lw_okq (⟨"MorningBiteModel", "toldOf", "(II)I"⟩, 38) := ⟨⟨by decide +kernel, by decide +kernel⟩, List.mem_of_getElem? (i := 661) (by decide +kernel), List.mem_of_getElem? (i := 1074) (by decide +kernel), List.mem_of_getElem? (i := 1075) (by decide +kernel)⟩
def lw_privs_4 : List (MethodName × Nat) := [(⟨"MorningBiteModel", "halvesBy", "(IIIIII)I"⟩, 38), (⟨"MorningBiteModel", "thenOf", "(IIII)I"⟩, 38), (⟨"MorningBiteModel", "firstHow", "(III)I"⟩, 38), (⟨"MorningBiteModel", "shareOf", "(II)I"⟩, 38), (⟨"MorningBiteModel", "isEnvyless", "()Z"⟩, 38), (⟨"MorningBiteModel", "givers", "()I"⟩, 38), (⟨"MorningBiteModel", "fits", "(I)Z"⟩, 38), (⟨"MorningBiteModel", "lookedBy", "(II)I"⟩, 38), (⟨"MorningBiteModel", "mostAlike", "(II)I"⟩, 38), (⟨"MorningBiteModel", "wormyDay", "(II)V"⟩, 38), (⟨"MorningBiteModel", "passAll", "()V"⟩, 38), (⟨"MorningBiteModel", "pass", "(I)I"⟩, 38), (⟨"MorningBiteModel", "toldOf", "(II)I"⟩, 38)]
theorem lw_r4 : ∀ q ∈ lw_privs_4, lw_okq q := List.forall_mem_cons.mpr ⟨lw_p48, List.forall_mem_cons.mpr ⟨lw_p49, List.forall_mem_cons.mpr ⟨lw_p50, List.forall_mem_cons.mpr ⟨lw_p51, List.forall_mem_cons.mpr ⟨lw_p52, List.forall_mem_cons.mpr ⟨lw_p53, List.forall_mem_cons.mpr ⟨lw_p54, List.forall_mem_cons.mpr ⟨lw_p55, List.forall_mem_cons.mpr ⟨lw_p56, List.forall_mem_cons.mpr ⟨lw_p57, List.forall_mem_cons.mpr ⟨lw_p58, List.forall_mem_cons.mpr ⟨lw_p59, List.forall_mem_cons.mpr ⟨lw_p60, fun _ h => absurd h List.not_mem_nil⟩⟩⟩⟩⟩⟩⟩⟩⟩⟩⟩⟩⟩
def lw_privs : List (MethodName × Nat) := lw_privs_1 ++ (lw_privs_2 ++ (lw_privs_3 ++ (lw_privs_4)))
def lw_tbl : List Cond := k2_sels lw_privs ++ tables_1
theorem lw_privs_ok : ∀ q ∈ lw_privs, lw_okq q := by
  show ∀ q ∈ lw_privs_1 ++ (lw_privs_2 ++ (lw_privs_3 ++ (lw_privs_4))), lw_okq q
  exact List.forall_mem_append.mpr ⟨lw_r1, List.forall_mem_append.mpr ⟨lw_r2, List.forall_mem_append.mpr ⟨lw_r3, lw_r4⟩⟩⟩
def RX0 : String := "MorningBite$Days"
def TX0 : u_T := fun k => match k with
  | 0 => ("MorningBite$Days", "end", "LMorningBite$Hill;", true)
  | 1 => ("MorningBite$Days", "ahead", "[I", true)
  | 2 => ("MorningBite$Days", "oldestAt", "[I", true)
  | 3 => ("MorningBite$Days", "mornings", "I", false)
  | 4 => ("MorningBite$Days", "badAct", "I", false)
  | 5 => ("MorningBite$Days", "badWhy", "I", false)
  | 6 => ("MorningBite$Days", "passMorning", "I", false)
  | _ => ("MorningBite$Days", "passPair", "I", false)
def tyX0 : Nat → FieldType := fun k => match k with
  | 0 => .object "MorningBite$Hill"
  | 1 => .array .int
  | 2 => .array .int
  | 3 => .int
  | 4 => .int
  | 5 => .int
  | 6 => .int
  | _ => .int
abbrev wsX00 : List Cond := u_ws RX0 TX0 8
theorem nmX0 : ∀ a, a < 8 → ∀ b, b < 8 → a ≠ b → (TX0 a).2.1 ≠ (TX0 b).2.1 := by decide +kernel
theorem tyX0_ok : ∀ k, k < 8 → parseFieldDescriptor (TX0 k).2.2.1 = some (tyX0 k) := by decide +kernel
abbrev cX0_init : ByteArray := prog_2_method_1_code
def yX0_init : MethodName := ⟨RX0, "<init>", "()V"⟩
abbrev cX0_live : ByteArray := prog_2_method_2_code
def yX0_live : MethodName := ⟨RX0, "live", "(LMorningBite$Hill;LMorningBite$Pad;)V"⟩
abbrev cX0_tellMorning : ByteArray := prog_2_method_3_code
def yX0_tellMorning : MethodName := ⟨RX0, "tellMorning", "()V"⟩
abbrev cX0_leastPass : ByteArray := prog_2_method_4_code
def yX0_leastPass : MethodName := ⟨RX0, "leastPass", "()I"⟩
abbrev cX0_hasPassed : ByteArray := prog_2_method_5_code
def yX0_hasPassed : MethodName := ⟨RX0, "hasPassed", "(II)Z"⟩
def RX1 : String := "MorningBite$Hill"
def TX1 : u_T := fun k => match k with
  | 0 => ("MorningBite$Hill", "looks", "[I", true)
  | 1 => ("MorningBite$Hill", "pace", "[I", true)
  | 2 => ("MorningBite$Hill", "youth", "[I", true)
  | 3 => ("MorningBite$Hill", "eaten", "[I", true)
  | 4 => ("MorningBite$Hill", "there", "I", false)
  | 5 => ("MorningBite$Hill", "basket", "I", false)
  | 6 => ("MorningBite$Hill", "grown", "I", false)
  | _ => ("MorningBite$Hill", "she", "I", false)
def tyX1 : Nat → FieldType := fun k => match k with
  | 0 => .array .int
  | 1 => .array .int
  | 2 => .array .int
  | 3 => .array .int
  | 4 => .int
  | 5 => .int
  | 6 => .int
  | _ => .int
abbrev wsX10 : List Cond := u_ws RX1 TX1 8
theorem nmX1 : ∀ a, a < 8 → ∀ b, b < 8 → a ≠ b → (TX1 a).2.1 ≠ (TX1 b).2.1 := by decide +kernel
theorem tyX1_ok : ∀ k, k < 8 → parseFieldDescriptor (TX1 k).2.2.1 = some (tyX1 k) := by decide +kernel
abbrev cX1_init : ByteArray := prog_3_method_1_code
def yX1_init : MethodName := ⟨RX1, "<init>", "()V"⟩
abbrev cX1_has : ByteArray := prog_3_method_2_code
def yX1_has : MethodName := ⟨RX1, "has", "(I)Z"⟩
abbrev cX1_people : ByteArray := prog_3_method_3_code
def yX1_people : MethodName := ⟨RX1, "people", "()I"⟩
abbrev cX1_settle : ByteArray := prog_3_method_4_code
def yX1_settle : MethodName := ⟨RX1, "settle", "(IIII)V"⟩
abbrev cX1_drop : ByteArray := prog_3_method_5_code
def yX1_drop : MethodName := ⟨RX1, "drop", "(I)V"⟩
abbrev cX1_takeOver : ByteArray := prog_3_method_6_code
def yX1_takeOver : MethodName := ⟨RX1, "takeOver", "(LMorningBite$Hill;)V"⟩
abbrev cX1_whyNot : ByteArray := prog_3_method_7_code
def yX1_whyNot : MethodName := ⟨RX1, "whyNot", "(III)I"⟩
abbrev cX1_whyNotGive : ByteArray := prog_3_method_8_code
def yX1_whyNotGive : MethodName := ⟨RX1, "whyNotGive", "(II)I"⟩
abbrev cX1_halvesOf : ByteArray := prog_3_method_9_code
def yX1_halvesOf : MethodName := ⟨RX1, "halvesOf", "(I)I"⟩
abbrev cX1_act : ByteArray := prog_3_method_10_code
def yX1_act : MethodName := ⟨RX1, "act", "(III)V"⟩
abbrev cX1_wake : ByteArray := prog_3_method_11_code
def yX1_wake : MethodName := ⟨RX1, "wake", "()V"⟩
abbrev cX1_aged : ByteArray := prog_3_method_12_code
def yX1_aged : MethodName := ⟨RX1, "aged", "(III)I"⟩
abbrev cX1_oldestOne : ByteArray := prog_3_method_13_code
def yX1_oldestOne : MethodName := ⟨RX1, "oldestOne", "()I"⟩
abbrev cX1_looksTogether : ByteArray := prog_3_method_14_code
def yX1_looksTogether : MethodName := ⟨RX1, "looksTogether", "()I"⟩
def RX2 : String := "MorningBite$Image"
def TX2 : u_T := fun k => match k with
  | 0 => ("MorningBite$Image", "hill", "LMorningBite$Hill;", true)
  | 1 => ("MorningBite$Image", "sights", "LMorningBite$Sights;", true)
  | _ => ("MorningBite$Image", "kept", "Z", false)
def tyX2 : Nat → FieldType := fun k => match k with
  | 0 => .object "MorningBite$Hill"
  | 1 => .object "MorningBite$Sights"
  | _ => .boolean
abbrev wsX20 : List Cond := u_ws RX2 TX2 3
theorem nmX2 : ∀ a, a < 3 → ∀ b, b < 3 → a ≠ b → (TX2 a).2.1 ≠ (TX2 b).2.1 := by decide +kernel
theorem tyX2_ok : ∀ k, k < 3 → parseFieldDescriptor (TX2 k).2.2.1 = some (tyX2 k) := by decide +kernel
abbrev cX2_init : ByteArray := prog_4_method_1_code
def yX2_init : MethodName := ⟨RX2, "<init>", "()V"⟩
abbrev cX2_keep : ByteArray := prog_4_method_2_code
def yX2_keep : MethodName := ⟨RX2, "keep", "(LMorningBite$Hill;LMorningBite$Sights;)V"⟩
abbrev cX2_giveBack : ByteArray := prog_4_method_3_code
def yX2_giveBack : MethodName := ⟨RX2, "giveBack", "(LMorningBite$Hill;LMorningBite$Sights;)V"⟩
def RX3 : String := "MorningBite$Keeper"
def TX3 : u_T := fun k => match k with
  | 0 => ("MorningBite$Keeper", "seats", "[I", true)
  | 1 => ("MorningBite$Keeper", "ages", "[[I", true)
  | 2 => ("MorningBite$Keeper", "counts", "[I", true)
  | 3 => ("MorningBite$Keeper", "nexts", "[[I", true)
  | 4 => ("MorningBite$Keeper", "fewest", "[I", true)
  | 5 => ("MorningBite$Keeper", "starts", "[I", true)
  | 6 => ("MorningBite$Keeper", "row", "[I", true)
  | 7 => ("MorningBite$Keeper", "days", "I", false)
  | 8 => ("MorningBite$Keeper", "halves", "I", false)
  | 9 => ("MorningBite$Keeper", "most", "I", false)
  | _ => ("MorningBite$Keeper", "pick", "I", false)
def tyX3 : Nat → FieldType := fun k => match k with
  | 0 => .array .int
  | 1 => .array (.array .int)
  | 2 => .array .int
  | 3 => .array (.array .int)
  | 4 => .array .int
  | 5 => .array .int
  | 6 => .array .int
  | 7 => .int
  | 8 => .int
  | 9 => .int
  | _ => .int
abbrev wsX30 : List Cond := u_ws RX3 TX3 11
theorem nmX3 : ∀ a, a < 11 → ∀ b, b < 11 → a ≠ b → (TX3 a).2.1 ≠ (TX3 b).2.1 := by decide +kernel
theorem tyX3_ok : ∀ k, k < 11 → parseFieldDescriptor (TX3 k).2.2.1 = some (tyX3 k) := by decide +kernel
abbrev cX3_init : ByteArray := prog_5_method_1_code
def yX3_init : MethodName := ⟨RX3, "<init>", "()V"⟩
abbrev cX3_solve : ByteArray := prog_5_method_2_code
def yX3_solve : MethodName := ⟨RX3, "solve", "(LMorningBite$Hill;IIII)I"⟩
abbrev cX3_seat : ByteArray := prog_5_method_3_code
def yX3_seat : MethodName := ⟨RX3, "seat", "(LMorningBite$Hill;I)V"⟩
abbrev cX3_listAges : ByteArray := prog_5_method_4_code
def yX3_listAges : MethodName := ⟨RX3, "listAges", "(LMorningBite$Hill;)V"⟩
abbrev cX3_listNext : ByteArray := prog_5_method_5_code
def yX3_listNext : MethodName := ⟨RX3, "listNext", "(LMorningBite$Hill;II)V"⟩
abbrev cX3_lastsRest : ByteArray := prog_5_method_6_code
def yX3_lastsRest : MethodName := ⟨RX3, "lastsRest", "(LMorningBite$Hill;III)Z"⟩
abbrev cX3_findAge : ByteArray := prog_5_method_7_code
def yX3_findAge : MethodName := ⟨RX3, "findAge", "(II)I"⟩
abbrev cX3_countOf : ByteArray := prog_5_method_8_code
def yX3_countOf : MethodName := ⟨RX3, "countOf", "(II)I"⟩
abbrev cX3_countDay : ByteArray := prog_5_method_9_code
def yX3_countDay : MethodName := ⟨RX3, "countDay", "(I)V"⟩
abbrev cX3_bestMeals : ByteArray := prog_5_method_10_code
def yX3_bestMeals : MethodName := ⟨RX3, "bestMeals", "(IIII)I"⟩
abbrev cX3_next : ByteArray := prog_5_method_11_code
def yX3_next : MethodName := ⟨RX3, "next", "(IIII)I"⟩
abbrev cX3_fewestFrom : ByteArray := prog_5_method_12_code
def yX3_fewestFrom : MethodName := ⟨RX3, "fewestFrom", "(IIII)I"⟩
abbrev cX3_eats : ByteArray := prog_5_method_13_code
def yX3_eats : MethodName := ⟨RX3, "eats", "(II)I"⟩
abbrev cX3_walk : ByteArray := prog_5_method_14_code
def yX3_walk : MethodName := ⟨RX3, "walk", "()V"⟩
def RX4 : String := "MorningBite$Pad"
def TX4 : u_T := fun k => match k with
  | 0 => ("MorningBite$Pad", "signs", "[I", true)
  | 1 => ("MorningBite$Pad", "kinds", "[I", true)
  | 2 => ("MorningBite$Pad", "doers", "[I", true)
  | 3 => ("MorningBite$Pad", "receivers", "[I", true)
  | 4 => ("MorningBite$Pad", "size", "I", false)
  | _ => ("MorningBite$Pad", "acts", "I", false)
def tyX4 : Nat → FieldType := fun k => match k with
  | 0 => .array .int
  | 1 => .array .int
  | 2 => .array .int
  | 3 => .array .int
  | 4 => .int
  | _ => .int
abbrev wsX40 : List Cond := u_ws RX4 TX4 6
theorem nmX4 : ∀ a, a < 6 → ∀ b, b < 6 → a ≠ b → (TX4 a).2.1 ≠ (TX4 b).2.1 := by decide +kernel
theorem tyX4_ok : ∀ k, k < 6 → parseFieldDescriptor (TX4 k).2.2.1 = some (tyX4 k) := by decide +kernel
abbrev cX4_init : ByteArray := prog_6_method_1_code
def yX4_init : MethodName := ⟨RX4, "<init>", "()V"⟩
abbrev cX4_add : ByteArray := prog_6_method_2_code
def yX4_add : MethodName := ⟨RX4, "add", "(I)Z"⟩
abbrev cX4_read : ByteArray := prog_6_method_3_code
def yX4_read : MethodName := ⟨RX4, "read", "()I"⟩
abbrev cX4_isLetter : ByteArray := prog_6_method_4_code
def yX4_isLetter : MethodName := ⟨RX4, "isLetter", "(I)Z"⟩
abbrev cX4_addAct : ByteArray := prog_6_method_5_code
def yX4_addAct : MethodName := ⟨RX4, "addAct", "(III)V"⟩
def RX5 : String := "MorningBite$Shares"
def TX5 : u_T := fun k => match k with
  | 0 => ("MorningBite$Shares", "behind", "[I", true)
  | 1 => ("MorningBite$Shares", "count", "I", false)
  | _ => ("MorningBite$Shares", "first", "I", false)
def tyX5 : Nat → FieldType := fun k => match k with
  | 0 => .array .int
  | 1 => .int
  | _ => .int
abbrev wsX50 : List Cond := u_ws RX5 TX5 3
theorem nmX5 : ∀ a, a < 3 → ∀ b, b < 3 → a ≠ b → (TX5 a).2.1 ≠ (TX5 b).2.1 := by decide +kernel
theorem tyX5_ok : ∀ k, k < 3 → parseFieldDescriptor (TX5 k).2.2.1 = some (tyX5 k) := by decide +kernel
abbrev cX5_init : ByteArray := prog_7_method_1_code
def yX5_init : MethodName := ⟨RX5, "<init>", "()V"⟩
abbrev cX5_weigh : ByteArray := prog_7_method_2_code
def yX5_weigh : MethodName := ⟨RX5, "weigh", "(LMorningBite$Hill;I)V"⟩
abbrev cX5_share : ByteArray := prog_7_method_3_code
def yX5_share : MethodName := ⟨RX5, "share", "(LMorningBite$Hill;III)V"⟩
abbrev cX5_addShare : ByteArray := prog_7_method_4_code
def yX5_addShare : MethodName := ⟨RX5, "addShare", "(II)V"⟩
abbrev cX5_envies : ByteArray := prog_7_method_5_code
def yX5_envies : MethodName := ⟨RX5, "envies", "(LMorningBite$Hill;I)Z"⟩
abbrev cX5_wronged : ByteArray := prog_7_method_6_code
def yX5_wronged : MethodName := ⟨RX5, "wronged", "(LMorningBite$Hill;II)Z"⟩
def RX6 : String := "MorningBite$Sights"
def TX6 : u_T := fun k => match k with
  | 0 => ("MorningBite$Sights", "ones", "[I", true)
  | 1 => ("MorningBite$Sights", "looked", "[I", true)
  | _ => ("MorningBite$Sights", "count", "I", false)
def tyX6 : Nat → FieldType := fun k => match k with
  | 0 => .array .int
  | 1 => .array .int
  | _ => .int
abbrev wsX60 : List Cond := u_ws RX6 TX6 3
theorem nmX6 : ∀ a, a < 3 → ∀ b, b < 3 → a ≠ b → (TX6 a).2.1 ≠ (TX6 b).2.1 := by decide +kernel
theorem tyX6_ok : ∀ k, k < 3 → parseFieldDescriptor (TX6 k).2.2.1 = some (tyX6 k) := by decide +kernel
abbrev cX6_init : ByteArray := prog_8_method_1_code
def yX6_init : MethodName := ⟨RX6, "<init>", "()V"⟩
abbrev cX6_add : ByteArray := prog_8_method_2_code
def yX6_add : MethodName := ⟨RX6, "add", "(II)Z"⟩
abbrev cX6_takeOver : ByteArray := prog_8_method_3_code
def yX6_takeOver : MethodName := ⟨RX6, "takeOver", "(LMorningBite$Sights;)V"⟩
abbrev cX6_givers : ByteArray := prog_8_method_4_code
def yX6_givers : MethodName := ⟨RX6, "givers", "(LMorningBite$Hill;)I"⟩
abbrev cX6_fits : ByteArray := prog_8_method_5_code
def yX6_fits : MethodName := ⟨RX6, "fits", "(LMorningBite$Hill;I)Z"⟩
abbrev cX6_leftAtMost : ByteArray := prog_8_method_6_code
def yX6_leftAtMost : MethodName := ⟨RX6, "leftAtMost", "(LMorningBite$Hill;II)I"⟩
abbrev cX6_looksBehind : ByteArray := prog_8_method_7_code
def yX6_looksBehind : MethodName := ⟨RX6, "looksBehind", "(LMorningBite$Hill;II)I"⟩
def RX7 : String := "MorningBite$Wormy"
def TX7 : u_T := fun k => match k with
  | _ => ("", "", "", false)
def tyX7 : Nat → FieldType := fun k => match k with
  | _ => .int
abbrev wsX70 : List Cond := u_ws RX7 TX7 0
theorem nmX7 : ∀ a, a < 0 → ∀ b, b < 0 → a ≠ b → (TX7 a).2.1 ≠ (TX7 b).2.1 := by decide +kernel
theorem tyX7_ok : ∀ k, k < 0 → parseFieldDescriptor (TX7 k).2.2.1 = some (tyX7 k) := by decide +kernel
abbrev cX7_weigh : ByteArray := prog_9_method_2_code
def yX7_weigh : MethodName := ⟨RX7, "weigh", "(LMorningBite$Hill;IIII)J"⟩
abbrev cX7_looksBehind : ByteArray := prog_9_method_3_code
def yX7_looksBehind : MethodName := ⟨RX7, "looksBehind", "(LMorningBite$Hill;III)I"⟩
abbrev cX7_power : ByteArray := prog_9_method_4_code
def yX7_power : MethodName := ⟨RX7, "power", "(JI)J"⟩
abbrev cX7_commonDivisor : ByteArray := prog_9_method_5_code
def yX7_commonDivisor : MethodName := ⟨RX7, "commonDivisor", "(JJ)J"⟩
def RX8 : String := "MorningBite$Year"
def TX8 : u_T := fun k => match k with
  | 0 => ("MorningBite$Year", "end", "LMorningBite$Hill;", true)
  | _ => ("MorningBite$Year", "mornings", "I", false)
def tyX8 : Nat → FieldType := fun k => match k with
  | 0 => .object "MorningBite$Hill"
  | _ => .int
abbrev wsX80 : List Cond := u_ws RX8 TX8 2
theorem nmX8 : ∀ a, a < 2 → ∀ b, b < 2 → a ≠ b → (TX8 a).2.1 ≠ (TX8 b).2.1 := by decide +kernel
theorem tyX8_ok : ∀ k, k < 2 → parseFieldDescriptor (TX8 k).2.2.1 = some (tyX8 k) := by decide +kernel
abbrev cX8_init : ByteArray := prog_10_method_1_code
def yX8_init : MethodName := ⟨RX8, "<init>", "()V"⟩
abbrev cX8_live : ByteArray := prog_10_method_2_code
def yX8_live : MethodName := ⟨RX8, "live", "(LMorningBite$Hill;II)V"⟩
abbrev cX8_kindOf : ByteArray := prog_10_method_3_code
def yX8_kindOf : MethodName := ⟨RX8, "kindOf", "(I)I"⟩
def RX9 : String := "MorningBite"
def TX9 : u_T := fun k => match k with
  | 0 => ("MorningBite", "hill", "LMorningBite$Hill;", true)
  | 1 => ("MorningBite", "pad", "LMorningBite$Pad;", true)
  | 2 => ("MorningBite", "days", "LMorningBite$Days;", true)
  | 3 => ("MorningBite", "keeper", "LMorningBite$Keeper;", true)
  | 4 => ("MorningBite", "shares", "LMorningBite$Shares;", true)
  | 5 => ("MorningBite", "sights", "LMorningBite$Sights;", true)
  | 6 => ("MorningBite", "trialYear", "LMorningBite$Year;", true)
  | _ => ("MorningBite", "images", "[LMorningBite$Image;", true)
def tyX9 : Nat → FieldType := fun k => match k with
  | 0 => .object "MorningBite$Hill"
  | 1 => .object "MorningBite$Pad"
  | 2 => .object "MorningBite$Days"
  | 3 => .object "MorningBite$Keeper"
  | 4 => .object "MorningBite$Shares"
  | 5 => .object "MorningBite$Sights"
  | 6 => .object "MorningBite$Year"
  | _ => .array (.object "MorningBite$Image")
abbrev wsX90 : List Cond := u_ws RX9 TX9 8
theorem nmX9 : ∀ a, a < 8 → ∀ b, b < 8 → a ≠ b → (TX9 a).2.1 ≠ (TX9 b).2.1 := by decide +kernel
theorem tyX9_ok : ∀ k, k < 8 → parseFieldDescriptor (TX9 k).2.2.1 = some (tyX9 k) := by decide +kernel
abbrev cX9_init : ByteArray := prog_1_method_1_code
def yX9_init : MethodName := ⟨RX9, "<init>", "()V"⟩
abbrev cX9_one : ByteArray := prog_1_method_2_code
def yX9_one : MethodName := ⟨RX9, "one", "(IIII)I"⟩
abbrev cX9_leave : ByteArray := prog_1_method_3_code
def yX9_leave : MethodName := ⟨RX9, "leave", "(I)I"⟩
abbrev cX9_set : ByteArray := prog_1_method_4_code
def yX9_set : MethodName := ⟨RX9, "set", "(II)I"⟩
abbrev cX9_say : ByteArray := prog_1_method_5_code
def yX9_say : MethodName := ⟨RX9, "say", "(I)I"⟩
abbrev cX9_wipe : ByteArray := prog_1_method_6_code
def yX9_wipe : MethodName := ⟨RX9, "wipe", "()I"⟩
abbrev cX9_fault : ByteArray := prog_1_method_7_code
def yX9_fault : MethodName := ⟨RX9, "fault", "()I"⟩
abbrev cX9_judge : ByteArray := prog_1_method_8_code
def yX9_judge : MethodName := ⟨RX9, "judge", "(I)I"⟩
abbrev cX9_behind : ByteArray := prog_1_method_9_code
def yX9_behind : MethodName := ⟨RX9, "behind", "(II)I"⟩
abbrev cX9_basket : ByteArray := prog_1_method_10_code
def yX9_basket : MethodName := ⟨RX9, "basket", "()I"⟩
abbrev cX9_passed : ByteArray := prog_1_method_11_code
def yX9_passed : MethodName := ⟨RX9, "passed", "(I)I"⟩
abbrev cX9_oldest : ByteArray := prog_1_method_12_code
def yX9_oldest : MethodName := ⟨RX9, "oldest", "(I)I"⟩
abbrev cX9_done : ByteArray := prog_1_method_13_code
def yX9_done : MethodName := ⟨RX9, "done", "()I"⟩
abbrev cX9_lasts : ByteArray := prog_1_method_14_code
def yX9_lasts : MethodName := ⟨RX9, "lasts", "(II)I"⟩
abbrev cX9_keeps : ByteArray := prog_1_method_15_code
def yX9_keeps : MethodName := ⟨RX9, "keeps", "(IIII)I"⟩
abbrev cX9_plan : ByteArray := prog_1_method_16_code
def yX9_plan : MethodName := ⟨RX9, "plan", "(IIIIII)I"⟩
abbrev cX9_envy : ByteArray := prog_1_method_17_code
def yX9_envy : MethodName := ⟨RX9, "envy", "(II)I"⟩
abbrev cX9_refuses : ByteArray := prog_1_method_18_code
def yX9_refuses : MethodName := ⟨RX9, "refuses", "(I)I"⟩
abbrev cX9_seen : ByteArray := prog_1_method_19_code
def yX9_seen : MethodName := ⟨RX9, "seen", "(II)I"⟩
abbrev cX9_forget : ByteArray := prog_1_method_20_code
def yX9_forget : MethodName := ⟨RX9, "forget", "()I"⟩
abbrev cX9_gave : ByteArray := prog_1_method_21_code
def yX9_gave : MethodName := ⟨RX9, "gave", "(I)I"⟩
abbrev cX9_ask : ByteArray := prog_1_method_22_code
def yX9_ask : MethodName := ⟨RX9, "ask", "(I)I"⟩
abbrev cX9_thieves : ByteArray := prog_1_method_23_code
def yX9_thieves : MethodName := ⟨RX9, "thieves", "(III)I"⟩
abbrev cX9_worms : ByteArray := prog_1_method_24_code
def yX9_worms : MethodName := ⟨RX9, "worms", "(IIIII)J"⟩
abbrev cX9_year : ByteArray := prog_1_method_25_code
def yX9_year : MethodName := ⟨RX9, "year", "(III)I"⟩
abbrev cX9_image : ByteArray := prog_1_method_26_code
def yX9_image : MethodName := ⟨RX9, "image", "(I)I"⟩
abbrev cX9_restore : ByteArray := prog_1_method_27_code
def yX9_restore : MethodName := ⟨RX9, "restore", "(I)I"⟩
abbrev cX9_told : ByteArray := prog_1_method_28_code
def yX9_told : MethodName := ⟨RX9, "told", "(I)I"⟩
abbrev cX9_toldOf : ByteArray := prog_1_method_29_code
def yX9_toldOf : MethodName := ⟨RX9, "toldOf", "(II)I"⟩
abbrev cX9_liveDays : ByteArray := prog_1_method_30_code
def yX9_liveDays : MethodName := ⟨RX9, "liveDays", "()I"⟩
abbrev cX9_refuseKeeping : ByteArray := prog_1_method_31_code
def yX9_refuseKeeping : MethodName := ⟨RX9, "refuseKeeping", "(IIII)I"⟩
abbrev cX9_within : ByteArray := prog_1_method_32_code
def yX9_within : MethodName := ⟨RX9, "within", "(III)Z"⟩
def RX10 : String := "MorningBiteModel"
def TX10 : u_T := fun k => match k with
  | 0 => ("MorningBiteModel", "there", "I", false)
  | 1 => ("MorningBiteModel", "inBasket", "I", false)
  | 2 => ("MorningBiteModel", "grown", "I", false)
  | 3 => ("MorningBiteModel", "isHere", "I", false)
  | 4 => ("MorningBiteModel", "looks", "[I", true)
  | 5 => ("MorningBiteModel", "pace", "[I", true)
  | 6 => ("MorningBiteModel", "youth", "[I", true)
  | 7 => ("MorningBiteModel", "eaten", "[I", true)
  | 8 => ("MorningBiteModel", "sightOne", "[I", true)
  | 9 => ("MorningBiteModel", "sightLooks", "[I", true)
  | 10 => ("MorningBiteModel", "sights", "I", false)
  | 11 => ("MorningBiteModel", "pad", "[I", true)
  | 12 => ("MorningBiteModel", "padMany", "I", false)
  | 13 => ("MorningBiteModel", "act", "[I", true)
  | 14 => ("MorningBiteModel", "who", "[I", true)
  | 15 => ("MorningBiteModel", "whom", "[I", true)
  | 16 => ("MorningBiteModel", "acts", "I", false)
  | 17 => ("MorningBiteModel", "mornings", "I", false)
  | 18 => ("MorningBiteModel", "firstPassed", "I", false)
  | 19 => ("MorningBiteModel", "twoPassed", "I", false)
  | 20 => ("MorningBiteModel", "oldestBy", "[I", true)
  | 21 => ("MorningBiteModel", "ahead", "[I", true)
  | 22 => ("MorningBiteModel", "had", "[I", true)
  | 23 => ("MorningBiteModel", "badAct", "I", false)
  | 24 => ("MorningBiteModel", "badWhy", "I", false)
  | 25 => ("MorningBiteModel", "member", "[I", true)
  | 26 => ("MorningBiteModel", "age", "[I", true)
  | 27 => ("MorningBiteModel", "ageMany", "[I", true)
  | 28 => ("MorningBiteModel", "ageThen", "[I", true)
  | 29 => ("MorningBiteModel", "halvesFrom", "[I", true)
  | 30 => ("MorningBiteModel", "ledOn", "[I", true)
  | 31 => ("MorningBiteModel", "gets", "[I", true)
  | 32 => ("MorningBiteModel", "parts", "[J", true)
  | 33 => ("MorningBiteModel", "partsThen", "[J", true)
  | 34 => ("MorningBiteModel", "kept", "[I", true)
  | 35 => ("MorningBiteModel", "isKept", "[Z", true)
  | 36 => ("MorningBiteModel", "keptAt", "I", false)
  | _ => ("MorningBiteModel", "isWriting", "Z", false)
def tyX10 : Nat → FieldType := fun k => match k with
  | 0 => .int
  | 1 => .int
  | 2 => .int
  | 3 => .int
  | 4 => .array .int
  | 5 => .array .int
  | 6 => .array .int
  | 7 => .array .int
  | 8 => .array .int
  | 9 => .array .int
  | 10 => .int
  | 11 => .array .int
  | 12 => .int
  | 13 => .array .int
  | 14 => .array .int
  | 15 => .array .int
  | 16 => .int
  | 17 => .int
  | 18 => .int
  | 19 => .int
  | 20 => .array .int
  | 21 => .array .int
  | 22 => .array .int
  | 23 => .int
  | 24 => .int
  | 25 => .array .int
  | 26 => .array .int
  | 27 => .array .int
  | 28 => .array .int
  | 29 => .array .int
  | 30 => .array .int
  | 31 => .array .int
  | 32 => .array .long
  | 33 => .array .long
  | 34 => .array .int
  | 35 => .array .boolean
  | 36 => .int
  | _ => .boolean
abbrev wsX100 : List Cond := u_ws RX10 TX10 38
theorem nmX10 : ∀ a, a < 38 → ∀ b, b < 38 → a ≠ b → (TX10 a).2.1 ≠ (TX10 b).2.1 := by decide +kernel
theorem tyX10_ok : ∀ k, k < 38 → parseFieldDescriptor (TX10 k).2.2.1 = some (tyX10 k) := by decide +kernel
abbrev cX10_init : ByteArray := prog_12_method_1_code
def yX10_init : MethodName := ⟨RX10, "<init>", "()V"⟩
abbrev cX10_in : ByteArray := prog_12_method_3_code
def yX10_in : MethodName := ⟨RX10, "in", "(JJJ)Z"⟩
abbrev cX10_ones : ByteArray := prog_12_method_4_code
def yX10_ones : MethodName := ⟨RX10, "ones", "(I)I"⟩
abbrev cX10_isOne : ByteArray := prog_12_method_5_code
def yX10_isOne : MethodName := ⟨RX10, "isOne", "(I)Z"⟩
abbrev cX10_one : ByteArray := prog_12_method_6_code
def yX10_one : MethodName := ⟨RX10, "one", "(IIII)I"⟩
abbrev cX10_leave : ByteArray := prog_12_method_7_code
def yX10_leave : MethodName := ⟨RX10, "leave", "(I)I"⟩
abbrev cX10_set : ByteArray := prog_12_method_8_code
def yX10_set : MethodName := ⟨RX10, "set", "(II)I"⟩
abbrev cX10_say : ByteArray := prog_12_method_9_code
def yX10_say : MethodName := ⟨RX10, "say", "(I)I"⟩
abbrev cX10_wipe : ByteArray := prog_12_method_10_code
def yX10_wipe : MethodName := ⟨RX10, "wipe", "()I"⟩
abbrev cX10_isLetter : ByteArray := prog_12_method_11_code
def yX10_isLetter : MethodName := ⟨RX10, "isLetter", "(I)Z"⟩
abbrev cX10_close : ByteArray := prog_12_method_12_code
def yX10_close : MethodName := ⟨RX10, "close", "(II)I"⟩
abbrev cX10_readOn : ByteArray := prog_12_method_13_code
def yX10_readOn : MethodName := ⟨RX10, "readOn", "(II)I"⟩
abbrev cX10_fault : ByteArray := prog_12_method_14_code
def yX10_fault : MethodName := ⟨RX10, "fault", "()I"⟩
abbrev cX10_whyNotGive : ByteArray := prog_12_method_15_code
def yX10_whyNotGive : MethodName := ⟨RX10, "whyNotGive", "(II)I"⟩
abbrev cX10_whyNot : ByteArray := prog_12_method_16_code
def yX10_whyNot : MethodName := ⟨RX10, "whyNot", "(III)I"⟩
abbrev cX10_lookBehind : ByteArray := prog_12_method_17_code
def yX10_lookBehind : MethodName := ⟨RX10, "lookBehind", "(III)I"⟩
abbrev cX10_oldestNow : ByteArray := prog_12_method_18_code
def yX10_oldestNow : MethodName := ⟨RX10, "oldestNow", "()I"⟩
abbrev cX10_passing : ByteArray := prog_12_method_19_code
def yX10_passing : MethodName := ⟨RX10, "passing", "()I"⟩
abbrev cX10_passMorning : ByteArray := prog_12_method_20_code
def yX10_passMorning : MethodName := ⟨RX10, "passMorning", "()V"⟩
abbrev cX10_eat : ByteArray := prog_12_method_21_code
def yX10_eat : MethodName := ⟨RX10, "eat", "(II)V"⟩
abbrev cX10_happen : ByteArray := prog_12_method_22_code
def yX10_happen : MethodName := ⟨RX10, "happen", "(III)V"⟩
abbrev cX10_keepNow : ByteArray := prog_12_method_23_code
def yX10_keepNow : MethodName := ⟨RX10, "keepNow", "()V"⟩
abbrev cX10_back : ByteArray := prog_12_method_24_code
def yX10_back : MethodName := ⟨RX10, "back", "(I)I"⟩
abbrev cX10_beginCount : ByteArray := prog_12_method_25_code
def yX10_beginCount : MethodName := ⟨RX10, "beginCount", "()V"⟩
abbrev cX10_goDays : ByteArray := prog_12_method_26_code
def yX10_goDays : MethodName := ⟨RX10, "goDays", "()V"⟩
abbrev cX10_refusal : ByteArray := prog_12_method_27_code
def yX10_refusal : MethodName := ⟨RX10, "refusal", "()I"⟩
abbrev cX10_judge : ByteArray := prog_12_method_28_code
def yX10_judge : MethodName := ⟨RX10, "judge", "(I)I"⟩
abbrev cX10_behind : ByteArray := prog_12_method_29_code
def yX10_behind : MethodName := ⟨RX10, "behind", "(II)I"⟩
abbrev cX10_basket : ByteArray := prog_12_method_30_code
def yX10_basket : MethodName := ⟨RX10, "basket", "()I"⟩
abbrev cX10_passed : ByteArray := prog_12_method_31_code
def yX10_passed : MethodName := ⟨RX10, "passed", "(I)I"⟩
abbrev cX10_oldest : ByteArray := prog_12_method_32_code
def yX10_oldest : MethodName := ⟨RX10, "oldest", "(I)I"⟩
abbrev cX10_done : ByteArray := prog_12_method_33_code
def yX10_done : MethodName := ⟨RX10, "done", "()I"⟩
abbrev cX10_lasts : ByteArray := prog_12_method_34_code
def yX10_lasts : MethodName := ⟨RX10, "lasts", "(II)I"⟩
abbrev cX10_ageAt : ByteArray := prog_12_method_35_code
def yX10_ageAt : MethodName := ⟨RX10, "ageAt", "(II)I"⟩
abbrev cX10_layAges : ByteArray := prog_12_method_36_code
def yX10_layAges : MethodName := ⟨RX10, "layAges", "(III)V"⟩
abbrev cX10_layAgeThen : ByteArray := prog_12_method_37_code
def yX10_layAgeThen : MethodName := ⟨RX10, "layAgeThen", "(IIII)V"⟩
abbrev cX10_stateOf : ByteArray := prog_12_method_38_code
def yX10_stateOf : MethodName := ⟨RX10, "stateOf", "(III)I"⟩
abbrev cX10_thenOf : ByteArray := prog_12_method_39_code
def yX10_thenOf : MethodName := ⟨RX10, "thenOf", "(IIII)I"⟩
abbrev cX10_halvesOf : ByteArray := prog_12_method_40_code
def yX10_halvesOf : MethodName := ⟨RX10, "halvesOf", "(I)I"⟩
abbrev cX10_halvesBy : ByteArray := prog_12_method_41_code
def yX10_halvesBy : MethodName := ⟨RX10, "halvesBy", "(IIIIII)I"⟩
abbrev cX10_manyAt : ByteArray := prog_12_method_42_code
def yX10_manyAt : MethodName := ⟨RX10, "manyAt", "(II)I"⟩
abbrev cX10_layHalves : ByteArray := prog_12_method_43_code
def yX10_layHalves : MethodName := ⟨RX10, "layHalves", "(II)V"⟩
abbrev cX10_findPlan : ByteArray := prog_12_method_44_code
def yX10_findPlan : MethodName := ⟨RX10, "findPlan", "(IIII)V"⟩
abbrev cX10_planRefusal : ByteArray := prog_12_method_45_code
def yX10_planRefusal : MethodName := ⟨RX10, "planRefusal", "(IIII)I"⟩
abbrev cX10_keeps : ByteArray := prog_12_method_46_code
def yX10_keeps : MethodName := ⟨RX10, "keeps", "(IIII)I"⟩
abbrev cX10_firstHow : ByteArray := prog_12_method_47_code
def yX10_firstHow : MethodName := ⟨RX10, "firstHow", "(III)I"⟩
abbrev cX10_plan : ByteArray := prog_12_method_48_code
def yX10_plan : MethodName := ⟨RX10, "plan", "(IIIIII)I"⟩
abbrev cX10_isEnvyless : ByteArray := prog_12_method_49_code
def yX10_isEnvyless : MethodName := ⟨RX10, "isEnvyless", "()Z"⟩
abbrev cX10_shareOf : ByteArray := prog_12_method_50_code
def yX10_shareOf : MethodName := ⟨RX10, "shareOf", "(II)I"⟩
abbrev cX10_envy : ByteArray := prog_12_method_51_code
def yX10_envy : MethodName := ⟨RX10, "envy", "(II)I"⟩
abbrev cX10_refuses : ByteArray := prog_12_method_52_code
def yX10_refuses : MethodName := ⟨RX10, "refuses", "(I)I"⟩
abbrev cX10_seen : ByteArray := prog_12_method_53_code
def yX10_seen : MethodName := ⟨RX10, "seen", "(II)I"⟩
abbrev cX10_forget : ByteArray := prog_12_method_54_code
def yX10_forget : MethodName := ⟨RX10, "forget", "()I"⟩
abbrev cX10_lookedBy : ByteArray := prog_12_method_55_code
def yX10_lookedBy : MethodName := ⟨RX10, "lookedBy", "(II)I"⟩
abbrev cX10_fits : ByteArray := prog_12_method_56_code
def yX10_fits : MethodName := ⟨RX10, "fits", "(I)Z"⟩
abbrev cX10_givers : ByteArray := prog_12_method_57_code
def yX10_givers : MethodName := ⟨RX10, "givers", "()I"⟩
abbrev cX10_gave : ByteArray := prog_12_method_58_code
def yX10_gave : MethodName := ⟨RX10, "gave", "(I)I"⟩
abbrev cX10_mostAlike : ByteArray := prog_12_method_59_code
def yX10_mostAlike : MethodName := ⟨RX10, "mostAlike", "(II)I"⟩
abbrev cX10_ask : ByteArray := prog_12_method_60_code
def yX10_ask : MethodName := ⟨RX10, "ask", "(I)I"⟩
abbrev cX10_thieves : ByteArray := prog_12_method_61_code
def yX10_thieves : MethodName := ⟨RX10, "thieves", "(III)I"⟩
abbrev cX10_lowest : ByteArray := prog_12_method_62_code
def yX10_lowest : MethodName := ⟨RX10, "lowest", "(JJI)J"⟩
abbrev cX10_wormyDay : ByteArray := prog_12_method_63_code
def yX10_wormyDay : MethodName := ⟨RX10, "wormyDay", "(II)V"⟩
abbrev cX10_worms : ByteArray := prog_12_method_64_code
def yX10_worms : MethodName := ⟨RX10, "worms", "(IIIII)J"⟩
abbrev cX10_year : ByteArray := prog_12_method_65_code
def yX10_year : MethodName := ⟨RX10, "year", "(III)I"⟩
abbrev cX10_pass : ByteArray := prog_12_method_66_code
def yX10_pass : MethodName := ⟨RX10, "pass", "(I)I"⟩
abbrev cX10_passAll : ByteArray := prog_12_method_67_code
def yX10_passAll : MethodName := ⟨RX10, "passAll", "()V"⟩
abbrev cX10_image : ByteArray := prog_12_method_68_code
def yX10_image : MethodName := ⟨RX10, "image", "(I)I"⟩
abbrev cX10_restore : ByteArray := prog_12_method_69_code
def yX10_restore : MethodName := ⟨RX10, "restore", "(I)I"⟩
abbrev cX10_toldOf : ByteArray := prog_12_method_70_code
def yX10_toldOf : MethodName := ⟨RX10, "toldOf", "(II)I"⟩
abbrev cX10_told : ByteArray := prog_12_method_71_code
def yX10_told : MethodName := ⟨RX10, "told", "(I)I"⟩
def RJ6 : String := "java/lang/Integer"
abbrev cJ6_compare_7cf53 : ByteArray := prog_13_method_40_code
def yJ6_compare_7cf53 : MethodName := ⟨RJ6, "compare", "(II)I"⟩
abbrev cJ6_bitCount_0f7a4 : ByteArray := prog_13_method_49_code
def yJ6_bitCount_0f7a4 : MethodName := ⟨RJ6, "bitCount", "(I)I"⟩
def RJ9 : String := "java/lang/Math"
abbrev cJ9_max_7cf53 : ByteArray := prog_14_method_65_code
def yJ9_max_7cf53 : MethodName := ⟨RJ9, "max", "(II)I"⟩
abbrev cJ9_max_f86c9 : ByteArray := prog_14_method_66_code
def yJ9_max_f86c9 : MethodName := ⟨RJ9, "max", "(JJ)J"⟩
abbrev cJ9_min_7cf53 : ByteArray := prog_14_method_69_code
def yJ9_min_7cf53 : MethodName := ⟨RJ9, "min", "(II)I"⟩
def RJ10 : String := "java/lang/System"
def RL : String := "MorningBiteLaw"
abbrev cL_law : ByteArray := code
def yL_law : MethodName := ⟨RL, "law", "([I)Z"⟩
abbrev vwCl : List vw_C := [(RX0, TX0, 8), (RX1, TX1, 8), (RX2, TX2, 3), (RX3, TX3, 11), (RX4, TX4, 6), (RX5, TX5, 3), (RX6, TX6, 3), (RX8, TX8, 2), (RX9, TX9, 8), (RX10, TX10, 38)]
end
section
/-! A small machine over whole numbers, and its rows out of the kit's: the world's cells are numbered 0, 1, .. in the order in which they are made, from the address z on. -/
abbrev jV : Type := Int ⊕ (Int ⊕ Option (Option Nat))
abbrev jI (x : Int) : jV := .inl x
abbrev jL (x : Int) : jV := .inr (.inl x)
abbrev jR (h : Nat) : jV := .inr (.inr (some (some h)))
abbrev jS : jV := .inr (.inr (some none))
abbrev jN : jV := .inr (.inr none)
/-- the script: its address, its length, what it holds -/
abbrev jX : Type := Nat × Nat × (Nat → Int)
def jval (z : Nat) (X : jX) : jV → Value
  | .inl x => .int (Int32.ofInt x)
  | .inr (.inl x) => .long (Int64.ofInt x)
  | .inr (.inr (some (some h))) => .ref (z + h)
  | .inr (.inr (some none)) => .ref X.1
  | .inr (.inr none) => .null
/-- a cell's kind: 0 int[], 1 long[], 2 boolean[], 3 int[][], 4 Image[], 5 + c an object of class c; how many places; the references that it holds -/
abbrev jKd : Type := Nat × Nat × List (Option Nat)
abbrev jM : Type := List jKd × (Nat → Int → Int)
def jIn (x : Int) : Prop := -2147483648 ≤ x ∧ x ≤ 2147483647
def jInL (x : Int) : Prop := -9223372036854775808 ≤ x ∧ x ≤ 9223372036854775807
def jok : jV → Prop
  | .inl x => jIn x
  | .inr (.inl x) => jInL x
  | _ => True
def jokL : List jV → Prop
  | [] => True
  | v :: t => jok v ∧ jokL t
def jlen : List jKd → Nat → Nat := fun G k => (G.getD k (0, 0, [])).1
def jokM (μ : jM) : Prop := ∀ (k : Nat) (j : Int), (jlen μ.1 k = 1 → jInL (μ.2 k j)) ∧ (jlen μ.1 k ≠ 1 → jIn (μ.2 k j)) ∧ (μ.1.length ≤ k → μ.2 k j = 0)
def jfty (ci : Nat) : Nat → FieldType := match ci with
  | 0 => tyX0
  | 1 => tyX1
  | 2 => tyX2
  | 3 => tyX3
  | 4 => tyX4
  | 5 => tyX5
  | 6 => tyX6
  | 7 => tyX8
  | 8 => tyX9
  | _ => tyX10
def jisref : FieldType → Bool
  | .object _ => true
  | .array _ => true
  | _ => false
def jrf (z : Nat) (rs : List (Option Nat)) : Nat → Option Nat := fun j => (rs.getD j none).map (fun h => z + h)
def jfv (z ci : Nat) (rs : List (Option Nat)) (f : Int → Int) (j : Nat) : Value := if jisref (jfty ci j) = true then va_rf (jrf z rs j) else .int (Int32.ofInt (f j))
def jent (z : Nat) (aC : Nat → ClassId) (kd : jKd) (f : Int → Int) : va_E :=
  match kd with
  | (0, n, _) => .inl (aC 0, n, .inl (fun j => Int32.ofInt (f j)))
  | (1, n, _) => .inl (aC 1, n, .inr (.inl (fun j => Int64.ofInt (f j))))
  | (2, n, _) => .inl (aC 2, n, .inl (fun j => Int32.ofInt (f j)))
  | (3, n, rs) => .inl (aC 3, n, .inr (.inr (.inr (.inr (jrf z rs)))))
  | (4, n, rs) => .inl (aC 4, n, .inr (.inr (.inr (.inr (jrf z rs)))))
  | (ci + 5, n, rs) => .inr (ci, (List.range n).map (jfv z ci rs f))
def jws (z : Nat) (aC : Nat → ClassId) (μ : jM) : va_W := (List.range μ.1.length).map (fun k => (z + k, jent z aC (μ.1.getD k (0, 0, [])) (μ.2 k)))
theorem jws_get {z : Nat} {aC : Nat → ClassId} {G : List jKd} {M : Nat → Int → Int} {k : Nat} {kd : jKd} (h : G[k]? = some kd) : (jws z aC (G, M))[k]? = some (z + k, jent z aC kd (M k)) := by
  have hl := (List.getElem?_eq_some_iff.mp h).1
  unfold jws
  rw [List.getElem?_map, List.getElem?_range hl]
  simp [List.getD_eq_getElem?_getD, h]
theorem jws_at {z : Nat} {aC : Nat → ClassId} {μ : jM} {k : Nat} {q : Nat × va_E} (h : (jws z aC μ)[k]? = some q) : k < μ.1.length ∧ q = (z + k, jent z aC (μ.1.getD k (0, 0, [])) (μ.2 k)) := by
  have hl := (List.getElem?_eq_some_iff.mp h).1
  simp only [jws, List.length_map, List.length_range] at hl
  refine ⟨hl, ?_⟩
  simp only [jws, List.getElem?_map, List.getElem?_range hl, Option.map_some] at h
  exact (Option.some.inj h).symm
theorem jws_D {z : Nat} {aC : Nat → ClassId} {μ : jM} : va_D (fun q => z ≤ q) (jws z aC μ) := by
  refine ⟨fun i j p q hi hj e => ?_, fun k q hk => ?_⟩
  · rw [(jws_at hi).2, (jws_at hj).2] at e
    exact Nat.add_left_cancel e
  · rw [(jws_at hk).2]
    exact Nat.le_add_right _ _
theorem jws_set {z : Nat} {aC : Nat → ClassId} {G G' : List jKd} {M M' : Nat → Int → Int} {k : Nat} {E : va_E} (hl : G'.length = G.length) (h1 : E = jent z aC (G'.getD k (0, 0, [])) (M' k)) (h2 : ∀ j, j ≠ k → G'.getD j (0, 0, []) = G.getD j (0, 0, []) ∧ M' j = M j) :
    (jws z aC (G, M)).set k (z + k, E) = jws z aC (G', M') := by
  apply List.ext_getElem?
  intro j
  unfold jws
  rw [List.getElem?_set]
  simp only [List.length_map, List.length_range, List.getElem?_map, hl]
  by_cases hjk : k = j
  · subst hjk
    by_cases hk : k < G.length
    · simp [hk, h1]
    · simp [hk]
  · rw [if_neg hjk]
    by_cases hj : j < G.length
    · rw [List.getElem?_range hj]
      have e := (h2 j (fun e => hjk e.symm)).1
      rw [List.getD_eq_getElem?_getD, List.getD_eq_getElem?_getD] at e
      simp [e, (h2 j (fun e => hjk e.symm)).2]
    · simp [hj]
def jupd (M : Nat → Int → Int) (h : Nat) (i x : Int) : Nat → Int → Int := fun h' i' => if h' = h ∧ i' = i then x else M h' i'
theorem jupd_s (M : Nat → Int → Int) (h : Nat) (i x : Int) : jupd M h i x h i = x := by simp [jupd]
theorem jupd_h (M : Nat → Int → Int) {h h' : Nat} (i i' x : Int) (e : h' ≠ h) : jupd M h i x h' i' = M h' i' := by simp [jupd, e]
theorem jupd_i (M : Nat → Int → Int) (h h' : Nat) {i i' : Int} (x : Int) (e : i' ≠ i) : jupd M h i x h' i' = M h' i' := by simp [jupd, e]
theorem jupd_ne (M : Nat → Int → Int) {h h' : Nat} (i x : Int) (e : h' ≠ h) : jupd M h i x h' = M h' := funext fun _ => jupd_h M i _ x e
/-! ## the words -/
def jW : List Cond := lw_tbl.filter goodWord
def jisNw : Cond → Bool
  | .fieldLinkNest .. => true
  | .methodLinkNest .. => true
  | .arrayOver _ => true
  | _ => false
def jNW : List Cond := lw_tbl.filter jisNw
theorem jW_good : GoodIn jW jW := fun w hw => ⟨hw, good_of_word (by have := (List.mem_filter.mp hw).2; simpa using this)⟩
theorem jW_mem {w : Cond} (h : w ∈ lw_tbl) (hg : goodWord w = true) : w ∈ jW := List.mem_filter.mpr ⟨h, hg⟩
theorem jNW_mem {w : Cond} (h : w ∈ lw_tbl) (hg : jisNw w = true) : w ∈ jNW := List.mem_filter.mpr ⟨h, hg⟩
def jtys (aC : Nat → ClassId) : List (ClassId × FieldType) := [(aC 0, .int), (aC 1, .long), (aC 2, .boolean), (aC 3, .array .int), (aC 4, .object RX2)]
theorem jao {ty : FieldType} {s U : State} (hW : s.vm.Alike U.vm) (h : va_Nw (.arrayOver ty) s) : va_Nw (.arrayOver ty) U := by
  have h2 := (Cond.arrayOver_setVmC (args := #[]) (s := s) hW ty).trans h
  exact h2
/-- what stands of the tables in every frame -/
def jKn (D : va_G) (aC : Nat → ClassId) (s : State) : Prop := (∀ w ∈ jNW, va_Nw w s) ∧ va_K D vwCl (jtys aC) s
theorem jKn.warm {D : va_G} {aC : Nat → ClassId} {s U : State} (hW : s.WarmedH U.vm) (h : jKn D aC s) : jKn D aC U := by
  refine ⟨fun w hw => ?_, h.2.moved hW.alike⟩
  have h1 := h.1 w hw
  have h2 := (List.mem_filter.mp hw).2
  cases w <;> first | exact va_Nw.warmF hW h1 | exact va_Nw.warmM hW h1 | exact jao hW.alike h1 | (exfalso; revert h2; simp [jisNw])
theorem jKn.same {D : va_G} {aC : Nat → ClassId} {s U : State} (hv : s.vm = U.vm) (h : jKn D aC s) : jKn D aC U := by
  refine ⟨fun w hw => ?_, h.2.moved (by rw [hv]; exact Vm.Alike.refl U.vm)⟩
  have h1 := h.1 w hw
  have h2 := (List.mem_filter.mp hw).2
  cases w <;> first | exact va_Nw.same rfl hv h1 | exact jao (by rw [hv]; exact Vm.Alike.refl U.vm) h1 | (exfalso; revert h2; simp [jisNw])
/-! ## a method: name, code, locals, what it answers; whether it is the law, which has the script -/
abbrev jMt : Type := MethodName × ByteArray × Nat × Option FieldType × Bool
def jlv (z : Nat) (X : jX) : Nat → List jV → List (Nat × Value)
  | _, [] => []
  | i, .inr (.inr none) :: t => jlv z X (i + 1) t
  | i, v :: t => (i, jval z X v) :: jlv z X (i + 1) t
def jCtx (z : Nat) (X : jX) (d : Nat) (mm : jMt) (D : va_G) (aC : Nat → ClassId) (p : Program) (R : Room) (s : State) (m : MethodId) (args : Array Value) (meth : Method) (c : Code) : Prop :=
  p.tables.exec = Jvm.exec ∧ c.code = mm.2.1 ∧ c.maxLocals = mm.2.2.1 ∧ meth.sig.returnType = mm.2.2.2.1 ∧ meth.locks = false ∧ s.vm.findClass mm.1.cls = some m.cls ∧ meth.name = mm.1.name ∧ (∀ w ∈ jW, w.before args s = true) ∧ jKn D aC s ∧ d ≤ R.frames ∧ 64 * d ≤ R.locals ∧ z ≤ s.heap.size ∧ (mm.2.2.2.2 = true → va_X X.1 X.2.1 (fun j => Int32.ofInt (X.2.2 j)) s s.heap ∧ X.1 < z ∧ X.2.1 < 2147483648)
def jHp (z : Nat) (D : va_G) (aC : Nat → ClassId) (R : Room) (a : Nat × Nat) (s : State) (μ : jM) (H : Heap) (locs : List Loc) (cells slots : Nat) : Prop :=
  H.size = z + μ.1.length ∧ va_P D vwCl (jws z aC μ) H ∧ va_S (fun q => z ≤ q) s.heap H locs ∧ cells + a.1 ≤ R.cells ∧ slots + a.2 ≤ R.slots ∧ jokM μ
def jAt (z : Nat) (X : jX) (mm : jMt) (D : va_G) (aC : Nat → ClassId) (R : Room) (a : Nat × Nat) (s : State) (L S : List jV) (μ : jM) (H : Heap) (locs : List Loc) (cells slots : Nat) (ls : Array Slot) : Prop :=
  jHp z D aC R a s μ H locs cells slots ∧ lv_has ls mm.2.2.1 (jlv z X 0 L) ∧ L.length = mm.2.2.1 ∧ jokL L ∧ jokL S
def jRet (mm : jMt) (pc : Nat) : Option jV → Prop
  | none => mm.2.2.2.1 = none ∧ decode mm.2.1 pc = .ok (.return_, 1)
  | some (.inl x) => (mm.2.2.2.1 = some .int ∨ (mm.2.2.2.1 = some .boolean ∧ (x = 0 ∨ x = 1))) ∧ decode mm.2.1 pc = .ok (.ireturn, 1)
  | some (.inr (.inl _)) => mm.2.2.2.1 = some .long ∧ decode mm.2.1 pc = .ok (.lreturn, 1)
  | _ => False
def jEnd (z : Nat) (X : jX) (mm : jMt) (D : va_G) (aC : Nat → ClassId) (l : Launch) (p : Program) (e : Env) (R : Room) (s : State) (m : MethodId) (args : Array Value) (below : List Frame) (meth : Method) (c : Code) (Q : Option jV → jM → Prop) (Φ : State → Prop) : Prop :=
  ∀ (r : Option jV) (μ : jM), Q r μ → ∀ (a : Nat × Nat) (L : List jV) (H : Heap) (locs : List Loc) (cells slots : Nat) (ls : Array Slot) (pc : Nat), jAt z X mm D aC R a s L r.toList μ H locs cells slots ls → jRet mm pc r →
    W p l e R s m args below meth c H locs cells slots Φ (F0 m pc ls (r.toList.map (jval z X)))
/-- from here, with these locals, this stack, these cells, the method comes to its end, and Q holds of its answer and the cells -/
def J (l : Launch) (z : Nat) (X : jX) (d : Nat) (mm : jMt) (a : Nat × Nat) (pc : Nat) (L S : List jV) (μ : jM) (Q : Option jV → jM → Prop) : Prop :=
  ∀ (D : va_G) (aC : Nat → ClassId) (p : Program) (e : Env) (R : Room) (s : State) (m : MethodId) (args : Array Value) (below : List Frame) (meth : Method) (c : Code) (Φ : State → Prop),
    jCtx z X d mm D aC p R s m args meth c → jEnd z X mm D aC l p e R s m args below meth c Q Φ → ∀ (H : Heap) (locs : List Loc) (cells slots : Nat) (ls : Array Slot), jAt z X mm D aC R a s L S μ H locs cells slots ls →
      W p l e R s m args below meth c H locs cells slots Φ (F0 m pc ls (S.map (jval z X)))
/-! ## numbers -/
theorem j32 {x : Int} (h : jIn x) : (Int32.ofInt x).toInt = x := by
  have h1 := h.1; have h2 := h.2
  exact Int32.toInt_ofInt_of_le (by omega) (by omega)
theorem j64 {x : Int} (h : jInL x) : (Int64.ofInt x).toInt = x := by
  have h1 := h.1; have h2 := h.2
  exact Int64.toInt_ofInt_of_le (by omega) (by omega)
theorem j32_lt {x y : Int} (hx : jIn x) (hy : jIn y) : Int32.ofInt x < Int32.ofInt y ↔ x < y := by rw [Int32.lt_iff_toInt_lt, j32 hx, j32 hy]
theorem j32_le {x y : Int} (hx : jIn x) (hy : jIn y) : Int32.ofInt x ≤ Int32.ofInt y ↔ x ≤ y := by rw [Int32.le_iff_toInt_le, j32 hx, j32 hy]
theorem j32_eq {x y : Int} (hx : jIn x) (hy : jIn y) : Int32.ofInt x = Int32.ofInt y ↔ x = y := by rw [← Int32.toInt_inj, j32 hx, j32 hy]
theorem j32_0 : (0 : Int32) = Int32.ofInt 0 := by decide +kernel
theorem jIn0 : jIn 0 := by unfold jIn; omega
theorem j32_add {x y : Int} (hx : jIn x) (hy : jIn y) (h : jIn (x + y)) : Int32.ofInt x + Int32.ofInt y = Int32.ofInt (x + y) := by
  apply Int32.toInt_inj.mp
  have h1 := h.1; have h2 := h.2
  rw [Int32.toInt_add, j32 hx, j32 hy, j32 h, Int.bmod_eq_of_le (by omega) (by omega)]
theorem j32_sub {x y : Int} (hx : jIn x) (hy : jIn y) (h : jIn (x - y)) : Int32.ofInt x - Int32.ofInt y = Int32.ofInt (x - y) := by
  apply Int32.toInt_inj.mp
  have h1 := h.1; have h2 := h.2
  rw [Int32.toInt_sub, j32 hx, j32 hy, j32 h, Int.bmod_eq_of_le (by omega) (by omega)]
theorem j32_mul {x y : Int} (hx : jIn x) (hy : jIn y) (h : jIn (x * y)) : Int32.ofInt x * Int32.ofInt y = Int32.ofInt (x * y) := by
  apply Int32.toInt_inj.mp
  have h1 := h.1; have h2 := h.2
  rw [Int32.toInt_mul, j32 hx, j32 hy, j32 h, Int.bmod_eq_of_le (by omega) (by omega)]
theorem j64_add {x y : Int} (hx : jInL x) (hy : jInL y) (h : jInL (x + y)) : Int64.ofInt x + Int64.ofInt y = Int64.ofInt (x + y) := by
  apply Int64.toInt_inj.mp
  have h1 := h.1; have h2 := h.2
  rw [Int64.toInt_add, j64 hx, j64 hy, j64 h, Int.bmod_eq_of_le (by omega) (by omega)]
theorem j64_sub {x y : Int} (hx : jInL x) (hy : jInL y) (h : jInL (x - y)) : Int64.ofInt x - Int64.ofInt y = Int64.ofInt (x - y) := by
  apply Int64.toInt_inj.mp
  have h1 := h.1; have h2 := h.2
  rw [Int64.toInt_sub, j64 hx, j64 hy, j64 h, Int.bmod_eq_of_le (by omega) (by omega)]
theorem j64_mul {x y : Int} (hx : jInL x) (hy : jInL y) (h : jInL (x * y)) : Int64.ofInt x * Int64.ofInt y = Int64.ofInt (x * y) := by
  apply Int64.toInt_inj.mp
  have h1 := h.1; have h2 := h.2
  rw [Int64.toInt_mul, j64 hx, j64 hy, j64 h, Int.bmod_eq_of_le (by omega) (by omega)]
theorem jdiv_le {x y : Int} (h0 : 0 ≤ x) (hy : 0 < y) : 0 ≤ x / y ∧ x / y ≤ x := ⟨Int.ediv_nonneg h0 (by omega), Int.ediv_le_self y h0⟩
theorem jmod_le {x y : Int} (h0 : 0 ≤ x) (hy : 0 < y) : 0 ≤ x % y ∧ x % y ≤ x ∧ x % y < y := by
  refine ⟨Int.emod_nonneg x (by omega), ?_, Int.emod_lt_of_pos x hy⟩
  have h1 := Int.mul_ediv_add_emod x y
  have h2 := Int.mul_nonneg (a := y) (b := x / y) (by omega) (jdiv_le h0 hy).1
  omega
theorem j32_div {x y : Int} (hx : jIn x) (hy : jIn y) (h0 : 0 ≤ x) (h : 0 < y) : Int32.ofInt x / Int32.ofInt y = Int32.ofInt (x / y) ∧ jIn (x / y) := by
  have h1 := hx.2
  have h2 := jdiv_le h0 h
  have h3 : jIn (x / y) := ⟨by omega, by omega⟩
  refine ⟨?_, h3⟩
  apply Int32.toInt_inj.mp
  rw [Int32.toInt_div, j32 hx, j32 hy, j32 h3, Int.tdiv_eq_ediv_of_nonneg h0, Int.bmod_eq_of_le (by omega) (by omega)]
theorem j32_mod {x y : Int} (hx : jIn x) (hy : jIn y) (h0 : 0 ≤ x) (h : 0 < y) : Int32.ofInt x - Int32.ofInt x / Int32.ofInt y * Int32.ofInt y = Int32.ofInt (x % y) ∧ jIn (x % y) := by
  have h1 := hx.2
  have h2 := jmod_le h0 h
  have h3 : jIn (x % y) := ⟨by omega, by omega⟩
  refine ⟨?_, h3⟩
  apply Int32.toInt_inj.mp
  rw [irem_eq_mod, Int32.toInt_mod, j32 hx, j32 hy, j32 h3, Int.tmod_eq_emod_of_nonneg h0]
theorem j64_div {x y : Int} (hx : jInL x) (hy : jInL y) (h0 : 0 ≤ x) (h : 0 < y) : Int64.ofInt x / Int64.ofInt y = Int64.ofInt (x / y) ∧ jInL (x / y) := by
  have h1 := hx.2
  have h2 := jdiv_le h0 h
  have h3 : jInL (x / y) := ⟨by omega, by omega⟩
  refine ⟨?_, h3⟩
  apply Int64.toInt_inj.mp
  rw [Int64.toInt_div, j64 hx, j64 hy, j64 h3, Int.tdiv_eq_ediv_of_nonneg h0, Int.bmod_eq_of_le (by omega) (by omega)]
theorem j64_mod {x y : Int} (hx : jInL x) (hy : jInL y) (h0 : 0 ≤ x) (h : 0 < y) : Int64.ofInt x - Int64.ofInt x / Int64.ofInt y * Int64.ofInt y = Int64.ofInt (x % y) ∧ jInL (x % y) := by
  have h1 := hx.2
  have h2 := jmod_le h0 h
  have h3 : jInL (x % y) := ⟨by omega, by omega⟩
  refine ⟨?_, h3⟩
  have e : ∀ a b : Int64, (a - a / b * b).toInt = a.toInt.tmod b.toInt := fun a b => by
    have h5 : a - a / b * b = a % b := by
      apply Int64.toInt_inj.mp
      have h6 := Int64.le_toInt (a % b)
      have h7 := Int64.toInt_lt (a % b)
      rw [Int64.toInt_sub, Int64.toInt_mul, Int64.toInt_div, Int.bmod_mul_bmod, Int.sub_bmod_bmod, Int.mul_comm (a.toInt.tdiv b.toInt), ← Int.tmod_def, ← Int64.toInt_mod]
      exact Int.bmod_eq_of_le_mul_two (by omega) (by omega)
    rw [h5, Int64.toInt_mod]
  apply Int64.toInt_inj.mp
  rw [e, j64 hx, j64 hy, j64 h3, Int.tmod_eq_emod_of_nonneg h0]
theorem j32_64 {x : Int} (h : jIn x) : (Int32.ofInt x).toInt64 = Int64.ofInt x := by
  have h1 := h.1; have h2 := h.2
  exact Int32.toInt64_ofInt (Int.le_trans (by decide +kernel) h1) (Int.le_trans h2 (by decide +kernel))
theorem j32_ix {i : Int} {n : Nat} (h0 : 0 ≤ i) (h : jIn i) : (Int32.ofInt i).toNatClampNeg = i.toNat := by
  rw [Int32.toNatClampNeg, j32 h]
theorem j32_in {i : Int} {n : Nat} (h0 : 0 ≤ i) (h1 : i < n) (h : jIn i) : vp_in (Int32.ofInt i) n := vp_in_iff.mpr (by rw [j32 h]; exact ⟨h0, h1⟩)
/-! ## locals -/
def jlong : jV → Bool
  | .inr (.inl _) => true
  | _ => false
def jset1 : List jV → Nat → jV → List jV
  | [], _, _ => []
  | _ :: t, 0, v => v :: t
  | w :: t, i + 1, v => (bif (i == 0) && jlong w then jN else w) :: jset1 t i v
def jset2 : List jV → Nat → jV → List jV
  | [], _, _ => []
  | w :: t, 0, v => v :: jset1 t 0 jN
  | w :: t, i + 1, v => (bif (i == 0) && jlong w then jN else w) :: jset2 t i v
theorem jlv_cons {z : Nat} {X : jX} {off : Nat} {w : jV} {t : List jV} {q : Nat × Value} : q ∈ jlv z X off (w :: t) ↔ (w ≠ jN ∧ q = (off, jval z X w)) ∨ q ∈ jlv z X (off + 1) t := by
  rcases w with x | x | (_ | x)
  · simp [jlv]
  · simp [jlv]
  · simp [jlv]
  · simp [jlv]
theorem jlv_ge {z : Nat} {X : jX} {q : Nat × Value} : ∀ (L : List jV) (off : Nat), q ∈ jlv z X off L → off ≤ q.1
  | [], off, h => by simp [jlv] at h
  | w :: t, off, h => by
    rcases jlv_cons.mp h with ⟨-, h⟩ | h
    · rw [h]; exact Nat.le_refl _
    · have := jlv_ge t (off + 1) h
      omega
theorem jlv_mem {z : Nat} {X : jX} {v : jV} (hv : v ≠ jN) : ∀ (L : List jV) (off i : Nat), L[i]? = some v → (off + i, jval z X v) ∈ jlv z X off L
  | [], off, i, h => by simp at h
  | w :: t, off, 0, h => by
    have e : w = v := by simpa using h
    subst e
    exact jlv_cons.mpr (Or.inl ⟨hv, rfl⟩)
  | w :: t, off, i + 1, h => by
    have h1 := jlv_mem (z := z) (X := X) hv t (off + 1) i (by simpa using h)
    rw [Nat.add_right_comm, Nat.add_assoc] at h1
    exact jlv_cons.mpr (Or.inr h1)
theorem jlv_at {z : Nat} {X : jX} {ls : Array Slot} {n : Nat} {L : List jV} {i : Nat} {v : jV} (h : lv_has ls n (jlv z X 0 L)) (hi : L[i]? = some v) (hv : v ≠ jN) : ls[i]? = some (.val (jval z X v)) := by
  have h1 := jlv_mem (z := z) (X := X) hv L 0 i hi
  rw [Nat.zero_add] at h1
  exact h.2.2 _ h1
theorem jcat2 {z : Nat} {X : jX} {w : jV} (h : (jval z X w).category = 2) : jlong w = true := by
  rcases w with x | x | (_ | _ | x)
  · simp [jval, Value.category] at h
  · rfl
  · simp [jval, Value.category] at h
  · simp [jval, Value.category] at h
  · simp [jval, Value.category] at h
theorem jkill {z : Nat} {X : jX} {off i : Nat} {w : jV} {q : Nat × Value} (h : (bif (i == 0) && jlong w then jN else w) ≠ jN) (hq : q = (off, jval z X (bif (i == 0) && jlong w then jN else w))) : (w ≠ jN ∧ q = (off, jval z X w)) ∧ ¬ (q.1 + 1 = off + (i + 1) ∧ q.2.category = 2) := by
  cases hb : (i == 0) && jlong w with
  | true => rw [hb] at h; exact absurd rfl h
  | false =>
    rw [hb] at h hq
    refine ⟨⟨h, hq⟩, fun g => ?_⟩
    rw [hq] at g
    have g1 : off + 1 = off + (i + 1) := g.1
    have g2 := jcat2 g.2
    rw [show i = 0 by omega, show jlong w = true from g2] at hb
    exact absurd hb (by decide)
theorem jset1_mem {z : Nat} {X : jX} {v : jV} {q : Nat × Value} : ∀ (L : List jV) (off i : Nat), q ∈ jlv z X off (jset1 L i v) → q = (off + i, jval z X v) ∨ (q ∈ jlv z X off L ∧ q.1 ≠ off + i ∧ ¬ (q.1 + 1 = off + i ∧ q.2.category = 2))
  | [], off, i, h => by simp [jset1, jlv] at h
  | w :: t, off, 0, h => by
    rcases jlv_cons.mp (show q ∈ jlv z X off (v :: t) from h) with ⟨-, h⟩ | h
    · exact Or.inl h
    · have := jlv_ge t (off + 1) h
      exact Or.inr ⟨jlv_cons.mpr (Or.inr h), by omega, by omega⟩
  | w :: t, off, i + 1, h => by
    rcases jlv_cons.mp (show q ∈ jlv z X off ((bif (i == 0) && jlong w then jN else w) :: jset1 t i v) from h) with ⟨h1, h2⟩ | h
    · obtain ⟨g1, g2⟩ := jkill h1 h2
      refine Or.inr ⟨jlv_cons.mpr (Or.inl g1), ?_, g2⟩
      rw [h2]
      show off ≠ off + (i + 1)
      omega
    · rcases jset1_mem t (off + 1) i h with h | ⟨h1, h2, h3⟩
      · exact Or.inl (by rw [h]; congr 1; omega)
      · exact Or.inr ⟨jlv_cons.mpr (Or.inr h1), by omega, fun g => h3 ⟨by omega, g.2⟩⟩
theorem jset2_mem {z : Nat} {X : jX} {v : jV} {q : Nat × Value} : ∀ (L : List jV) (off i : Nat), q ∈ jlv z X off (jset2 L i v) → q = (off + i, jval z X v) ∨ (q ∈ jlv z X off L ∧ q.1 ≠ off + i ∧ q.1 ≠ off + i + 1 ∧ ¬ (q.1 + 1 = off + i ∧ q.2.category = 2))
  | [], off, i, h => by simp [jset2, jlv] at h
  | w :: t, off, 0, h => by
    rcases jlv_cons.mp (show q ∈ jlv z X off (v :: jset1 t 0 jN) from h) with ⟨-, h⟩ | h
    · exact Or.inl h
    · have := jlv_ge _ (off + 1) h
      cases t with
      | nil => simp [jset1, jlv] at h
      | cons u t =>
        rcases jlv_cons.mp (show q ∈ jlv z X (off + 1) (jN :: t) from h) with ⟨h, -⟩ | h
        · exact absurd rfl h
        · have := jlv_ge t (off + 1 + 1) h
          exact Or.inr ⟨jlv_cons.mpr (Or.inr (jlv_cons.mpr (Or.inr h))), by omega, by omega, by omega⟩
  | w :: t, off, i + 1, h => by
    rcases jlv_cons.mp (show q ∈ jlv z X off ((bif (i == 0) && jlong w then jN else w) :: jset2 t i v) from h) with ⟨h1, h2⟩ | h
    · obtain ⟨g1, g2⟩ := jkill h1 h2
      refine Or.inr ⟨jlv_cons.mpr (Or.inl g1), ?_, ?_, g2⟩
      · rw [h2]
        show off ≠ off + (i + 1)
        omega
      · rw [h2]
        show off ≠ off + (i + 1) + 1
        omega
    · rcases jset2_mem t (off + 1) i h with h | ⟨h1, h2, h4, h3⟩
      · exact Or.inl (by rw [h]; congr 1; omega)
      · exact Or.inr ⟨jlv_cons.mpr (Or.inr h1), by omega, by omega, fun g => h3 ⟨by omega, g.2⟩⟩
theorem jst1 {z : Nat} {X : jX} {ls : Array Slot} {n : Nat} {L : List jV} {i : Nat} {v : jV} (h : lv_has ls n ((i, jval z X v) :: (jlv z X 0 L).filter (fun q => !(q.1 == i) && !(q.1 + 1 == i && q.2.category == 2)))) : lv_has ls n (jlv z X 0 (jset1 L i v)) := by
  refine ⟨h.1, h.2.1, fun q hq => h.2.2 q ?_⟩
  rcases jset1_mem L 0 i hq with e | ⟨h1, h2, h3⟩
  · rw [e, Nat.zero_add]; exact List.mem_cons_self
  · refine List.mem_cons_of_mem _ (List.mem_filter.mpr ⟨h1, ?_⟩)
    rw [Nat.zero_add] at h2 h3
    by_cases hc : q.2.category = 2
    · have : ¬ q.1 + 1 = i := fun e => h3 ⟨e, hc⟩
      simp [h2, this]
    · simp [h2, hc]
theorem jst2 {z : Nat} {X : jX} {ls : Array Slot} {n : Nat} {L : List jV} {i : Nat} {v : jV} (h : lv_has ls n ((i, jval z X v) :: (jlv z X 0 L).filter (fun q => !(q.1 == i) && (!(q.1 == i + 1) && !(q.1 + 1 == i && q.2.category == 2))))) : lv_has ls n (jlv z X 0 (jset2 L i v)) := by
  refine ⟨h.1, h.2.1, fun q hq => h.2.2 q ?_⟩
  rcases jset2_mem L 0 i hq with e | ⟨h1, h2, h4, h3⟩
  · rw [e, Nat.zero_add]; exact List.mem_cons_self
  · refine List.mem_cons_of_mem _ (List.mem_filter.mpr ⟨h1, ?_⟩)
    rw [Nat.zero_add] at h2 h3 h4
    by_cases hc : q.2.category = 2
    · have : ¬ q.1 + 1 = i := fun e => h3 ⟨e, hc⟩
      simp [h2, h4, this]
    · simp [h2, h4, hc]
theorem jset1_len {v : jV} : ∀ (L : List jV) (i : Nat), (jset1 L i v).length = L.length
  | [], i => rfl
  | w :: t, 0 => rfl
  | w :: t, i + 1 => congrArg (· + 1) (jset1_len t i)
theorem jset2_len {v : jV} : ∀ (L : List jV) (i : Nat), (jset2 L i v).length = L.length
  | [], i => rfl
  | w :: t, 0 => congrArg (· + 1) (jset1_len t 0)
  | w :: t, i + 1 => congrArg (· + 1) (jset2_len t i)
theorem jok_kill {b : Bool} {w : jV} (h : jok w) : jok (bif b then jN else w) := by cases b <;> first | exact h | trivial
theorem jset1_ok {v : jV} (hv : jok v) : ∀ (L : List jV) (i : Nat), jokL L → jokL (jset1 L i v)
  | [], i, h => h
  | w :: t, 0, h => ⟨hv, h.2⟩
  | w :: t, i + 1, h => ⟨jok_kill h.1, jset1_ok hv t i h.2⟩
theorem jset2_ok {v : jV} (hv : jok v) : ∀ (L : List jV) (i : Nat), jokL L → jokL (jset2 L i v)
  | [], i, h => h
  | w :: t, 0, h => ⟨hv, jset1_ok (v := jN) trivial t 0 h.2⟩
  | w :: t, i + 1, h => ⟨jok_kill h.1, jset2_ok hv t i h.2⟩
theorem jokL_at : ∀ {L : List jV} {i : Nat} {v : jV}, jokL L → L[i]? = some v → jok v
  | [], i, v, h, e => by simp at e
  | w :: t, 0, v, h, e => by
    have e1 : w = v := by simpa using e
    subst e1
    exact h.1
  | w :: t, i + 1, v, h, e => jokL_at h.2 (by simpa using e)
theorem jokM_int {μ : jM} (h : jokM μ) {k : Nat} {kd : jKd} (hk : μ.1[k]? = some kd) (h1 : kd.1 ≠ 1) (j : Int) : jIn (μ.2 k j) := (h k j).2.1 (by unfold jlen; rw [List.getD_eq_getElem?_getD, hk]; exact h1)
theorem jokM_long {μ : jM} (h : jokM μ) {k : Nat} {kd : jKd} (hk : μ.1[k]? = some kd) (h1 : kd.1 = 1) (j : Int) : jInL (μ.2 k j) := (h k j).1 (by unfold jlen; rw [List.getD_eq_getElem?_getD, hk]; exact h1)
theorem jokM_upd {G : List jKd} {M : Nat → Int → Int} (h : jokM (G, M)) {k : Nat} {kd : jKd} (hk : G[k]? = some kd) {i x : Int} (hx : (kd.1 = 1 → jInL x) ∧ (kd.1 ≠ 1 → jIn x)) : jokM (G, jupd M k i x) := by
  intro k' j
  have hl := (List.getElem?_eq_some_iff.mp hk).1
  obtain ⟨h1, h2, h3⟩ := h k' j
  dsimp only at h1 h2 h3 ⊢
  unfold jupd
  by_cases e : k' = k ∧ j = i
  · rw [if_pos e]
    obtain ⟨e1, e2⟩ := e
    subst e1
    have e3 : jlen G k' = kd.1 := by unfold jlen; rw [List.getD_eq_getElem?_getD, hk]; rfl
    rw [e3]
    exact ⟨hx.1, hx.2, fun h => absurd hl (Nat.not_lt.mpr h)⟩
  · rw [if_neg e]
    exact ⟨h1, h2, h3⟩
end
section
/-- the bit operations, on whole numbers, by the machine's own -/
def jand (x y : Int) : Int := (Int32.ofInt x &&& Int32.ofInt y).toInt
def jor (x y : Int) : Int := (Int32.ofInt x ||| Int32.ofInt y).toInt
def jxor (x y : Int) : Int := (Int32.ofInt x ^^^ Int32.ofInt y).toInt
def jshl (x y : Int) : Int := (Int32.ofInt x <<< (Int32.ofInt y &&& 31)).toInt
def jshr (x y : Int) : Int := (Int32.ofInt x >>> (Int32.ofInt y &&& 31)).toInt
def jushr (x y : Int) : Int := (((Int32.ofInt x).toUInt32 >>> ((Int32.ofInt y).toUInt32 &&& Int32.toUInt32 31)).toInt32).toInt
theorem jIn_toInt (x : Int32) : jIn x.toInt := by
  have h1 := Int32.le_toInt x
  have h2 := Int32.toInt_lt x
  exact ⟨by omega, by omega⟩
section RULES
variable {l : Launch} {z : Nat} {X : jX} {d : Nat} {mm : jMt} {a : Nat × Nat} {pc : Nat} {L S : List jV} {μ : jM} {Q : Option jV → jM → Prop}
theorem J_iconst {n : Int} (hd : decode mm.2.1 pc = .ok (.iconst n, 1)) (hr : jIn n) (k : J l z X d mm a (pc + 1) L (jI n :: S) μ Q) : J l z X d mm a pc L (S) μ Q := by
  intro D aC p e R s m args below meth c Φ hc he H locs cells slots ls ha
  obtain ⟨hH, hl, hLn, hLo, hSo⟩ := id ha
  refine lv_iconst (v := Int32.ofInt n) hc.1 hc.2.1 hd rfl ?_
  exact k D aC p e R s m args below meth c Φ hc he H locs cells slots ls ⟨hH, hl, hLn, hLo, ⟨hr, hSo⟩⟩
theorem J_bipush {n : Int} (hd : decode mm.2.1 pc = .ok (.bipush n, 2)) (hr : jIn n) (hv : (Int8.ofInt n).toInt32 = Int32.ofInt n) (k : J l z X d mm a (pc + 2) L (jI n :: S) μ Q) : J l z X d mm a pc L (S) μ Q := by
  intro D aC p e R s m args below meth c Φ hc he H locs cells slots ls ha
  obtain ⟨hH, hl, hLn, hLo, hSo⟩ := id ha
  refine lv_bipush (v := Int32.ofInt n) hc.1 hc.2.1 hd hv ?_
  exact k D aC p e R s m args below meth c Φ hc he H locs cells slots ls ⟨hH, hl, hLn, hLo, ⟨hr, hSo⟩⟩
theorem J_sipush {n : Int} (hd : decode mm.2.1 pc = .ok (.sipush n, 3)) (hr : jIn n) (hv : (Int16.ofInt n).toInt32 = Int32.ofInt n) (k : J l z X d mm a (pc + 3) L (jI n :: S) μ Q) : J l z X d mm a pc L (S) μ Q := by
  intro D aC p e R s m args below meth c Φ hc he H locs cells slots ls ha
  obtain ⟨hH, hl, hLn, hLo, hSo⟩ := id ha
  refine lv_sipush (v := Int32.ofInt n) hc.1 hc.2.1 hd hv ?_
  exact k D aC p e R s m args below meth c Φ hc he H locs cells slots ls ⟨hH, hl, hLn, hLo, ⟨hr, hSo⟩⟩
theorem J_lconst {n : Fin 2} {x : Int} (hd : decode mm.2.1 pc = .ok (.lconst n, 1)) (hr : jInL x) (hv : Int64.ofNat (n : Nat) = Int64.ofInt x) (k : J l z X d mm a (pc + 1) L (jL x :: S) μ Q) : J l z X d mm a pc L (S) μ Q := by
  intro D aC p e R s m args below meth c Φ hc he H locs cells slots ls ha
  obtain ⟨hH, hl, hLn, hLo, hSo⟩ := id ha
  refine lv_lconst (v := Int64.ofInt x) hc.1 hc.2.1 hd hv ?_
  exact k D aC p e R s m args below meth c Φ hc he H locs cells slots ls ⟨hH, hl, hLn, hLo, ⟨hr, hSo⟩⟩
theorem J_ldc {index : Nat} {v : Int32} {x : Int} (hd : decode mm.2.1 pc = .ok (.ldc index, 2)) (hw : Jvm.Cond.constant mm.1.cls index v ∈ jW) (hr : jIn x) (hv : v = Int32.ofInt x) (k : J l z X d mm a (pc + 2) L (jI x :: S) μ Q) : J l z X d mm a pc L (S) μ Q := by
  intro D aC p e R s m args below meth c Φ hc he H locs cells slots ls ha
  obtain ⟨hH, hl, hLn, hLo, hSo⟩ := id ha
  refine lv_ldc hc.1 hc.2.1 hc.2.2.2.2.2.1 (hc.2.2.2.2.2.2.2.1 _ hw) hd ?_
  rw [hv]
  exact k D aC p e R s m args below meth c Φ hc he H locs cells slots ls ⟨hH, hl, hLn, hLo, ⟨hr, hSo⟩⟩
theorem J_ldcw {index : Nat} {v : Int32} {x : Int} (hd : decode mm.2.1 pc = .ok (.ldc_w index, 3)) (hw : Jvm.Cond.constant mm.1.cls index v ∈ jW) (hr : jIn x) (hv : v = Int32.ofInt x) (k : J l z X d mm a (pc + 3) L (jI x :: S) μ Q) : J l z X d mm a pc L (S) μ Q := by
  intro D aC p e R s m args below meth c Φ hc he H locs cells slots ls ha
  obtain ⟨hH, hl, hLn, hLo, hSo⟩ := id ha
  refine lv_ldcw hc.1 hc.2.1 hc.2.2.2.2.2.1 (hc.2.2.2.2.2.2.2.1 _ hw) hd ?_
  rw [hv]
  exact k D aC p e R s m args below meth c Φ hc he H locs cells slots ls ⟨hH, hl, hLn, hLo, ⟨hr, hSo⟩⟩
theorem J_ldc2 {index : Nat} {v : Int64} {x : Int} (hd : decode mm.2.1 pc = .ok (.ldc2_w index, 3)) (hw : Jvm.Cond.constantLong mm.1.cls index v ∈ jW) (hr : jInL x) (hv : v = Int64.ofInt x) (k : J l z X d mm a (pc + 3) L (jL x :: S) μ Q) : J l z X d mm a pc L (S) μ Q := by
  intro D aC p e R s m args below meth c Φ hc he H locs cells slots ls ha
  obtain ⟨hH, hl, hLn, hLo, hSo⟩ := id ha
  refine lv_ldc2 hc.1 hc.2.1 hc.2.2.2.2.2.1 (hc.2.2.2.2.2.2.2.1 _ hw) hd ?_
  rw [hv]
  exact k D aC p e R s m args below meth c Φ hc he H locs cells slots ls ⟨hH, hl, hLn, hLo, ⟨hr, hSo⟩⟩
theorem J_iload_n {k0 : Fin 4} {x : Int} (hd : decode mm.2.1 pc = .ok (.iload_n k0, 1)) (hk : L[(k0 : Nat)]? = some (jI x)) (k : J l z X d mm a (pc + 1) L (jI x :: S) μ Q) : J l z X d mm a pc L (S) μ Q := by
  intro D aC p e R s m args below meth c Φ hc he H locs cells slots ls ha
  obtain ⟨hH, hl, hLn, hLo, hSo⟩ := id ha
  refine lv_iload_n hc.1 hc.2.1 hd rfl (jlv_at hl hk (by simp)) ?_
  exact k D aC p e R s m args below meth c Φ hc he H locs cells slots ls ⟨hH, hl, hLn, hLo, ⟨jokL_at hLo hk, hSo⟩⟩
theorem J_iload {i : Nat} {x : Int} (hd : decode mm.2.1 pc = .ok (.iload i, 2)) (hk : L[i]? = some (jI x)) (k : J l z X d mm a (pc + 2) L (jI x :: S) μ Q) : J l z X d mm a pc L (S) μ Q := by
  intro D aC p e R s m args below meth c Φ hc he H locs cells slots ls ha
  obtain ⟨hH, hl, hLn, hLo, hSo⟩ := id ha
  refine lv_iload hc.1 hc.2.1 hd (jlv_at hl hk (by simp)) ?_
  exact k D aC p e R s m args below meth c Φ hc he H locs cells slots ls ⟨hH, hl, hLn, hLo, ⟨jokL_at hLo hk, hSo⟩⟩
theorem J_lload_n {k0 : Fin 4} {x : Int} (hd : decode mm.2.1 pc = .ok (.lload_n k0, 1)) (hk : L[(k0 : Nat)]? = some (jL x)) (k : J l z X d mm a (pc + 1) L (jL x :: S) μ Q) : J l z X d mm a pc L (S) μ Q := by
  intro D aC p e R s m args below meth c Φ hc he H locs cells slots ls ha
  obtain ⟨hH, hl, hLn, hLo, hSo⟩ := id ha
  refine lv_lload_n hc.1 hc.2.1 hd rfl (jlv_at hl hk (by simp)) ?_
  exact k D aC p e R s m args below meth c Φ hc he H locs cells slots ls ⟨hH, hl, hLn, hLo, ⟨jokL_at hLo hk, hSo⟩⟩
theorem J_lload {i : Nat} {x : Int} (hd : decode mm.2.1 pc = .ok (.lload i, 2)) (hk : L[i]? = some (jL x)) (k : J l z X d mm a (pc + 2) L (jL x :: S) μ Q) : J l z X d mm a pc L (S) μ Q := by
  intro D aC p e R s m args below meth c Φ hc he H locs cells slots ls ha
  obtain ⟨hH, hl, hLn, hLo, hSo⟩ := id ha
  refine lv_lload hc.1 hc.2.1 hd (jlv_at hl hk (by simp)) ?_
  exact k D aC p e R s m args below meth c Φ hc he H locs cells slots ls ⟨hH, hl, hLn, hLo, ⟨jokL_at hLo hk, hSo⟩⟩
theorem J_aload_n {k0 : Fin 4} {h : Nat} (hd : decode mm.2.1 pc = .ok (.aload_n k0, 1)) (hk : L[(k0 : Nat)]? = some (jR h)) (k : J l z X d mm a (pc + 1) L (jR h :: S) μ Q) : J l z X d mm a pc L (S) μ Q := by
  intro D aC p e R s m args below meth c Φ hc he H locs cells slots ls ha
  obtain ⟨hH, hl, hLn, hLo, hSo⟩ := id ha
  refine lv_aload_n hc.1 hc.2.1 hd rfl (jlv_at hl hk (by simp)) ?_
  exact k D aC p e R s m args below meth c Φ hc he H locs cells slots ls ⟨hH, hl, hLn, hLo, ⟨trivial, hSo⟩⟩
theorem J_aload {i : Nat} {h : Nat} (hd : decode mm.2.1 pc = .ok (.aload i, 2)) (hk : L[i]? = some (jR h)) (k : J l z X d mm a (pc + 2) L (jR h :: S) μ Q) : J l z X d mm a pc L (S) μ Q := by
  intro D aC p e R s m args below meth c Φ hc he H locs cells slots ls ha
  obtain ⟨hH, hl, hLn, hLo, hSo⟩ := id ha
  refine lv_aload hc.1 hc.2.1 hd (jlv_at hl hk (by simp)) ?_
  exact k D aC p e R s m args below meth c Φ hc he H locs cells slots ls ⟨hH, hl, hLn, hLo, ⟨trivial, hSo⟩⟩
theorem J_aload_nS {k0 : Fin 4}  (hd : decode mm.2.1 pc = .ok (.aload_n k0, 1)) (hk : L[(k0 : Nat)]? = some (jS)) (k : J l z X d mm a (pc + 1) L (jS :: S) μ Q) : J l z X d mm a pc L (S) μ Q := by
  intro D aC p e R s m args below meth c Φ hc he H locs cells slots ls ha
  obtain ⟨hH, hl, hLn, hLo, hSo⟩ := id ha
  refine lv_aload_n hc.1 hc.2.1 hd rfl (jlv_at hl hk (by simp)) ?_
  exact k D aC p e R s m args below meth c Φ hc he H locs cells slots ls ⟨hH, hl, hLn, hLo, ⟨trivial, hSo⟩⟩
theorem J_aloadS {i : Nat}  (hd : decode mm.2.1 pc = .ok (.aload i, 2)) (hk : L[i]? = some (jS)) (k : J l z X d mm a (pc + 2) L (jS :: S) μ Q) : J l z X d mm a pc L (S) μ Q := by
  intro D aC p e R s m args below meth c Φ hc he H locs cells slots ls ha
  obtain ⟨hH, hl, hLn, hLo, hSo⟩ := id ha
  refine lv_aload hc.1 hc.2.1 hd (jlv_at hl hk (by simp)) ?_
  exact k D aC p e R s m args below meth c Φ hc he H locs cells slots ls ⟨hH, hl, hLn, hLo, ⟨trivial, hSo⟩⟩
theorem J_istore_n {k0 : Fin 4} {x : Int} (hd : decode mm.2.1 pc = .ok (.istore_n k0, 1)) (hi : (k0 : Nat) < L.length) (k : J l z X d mm a (pc + 1) (jset1 L (k0 : Nat) (jI x)) S μ Q) : J l z X d mm a pc L (jI x :: S) μ Q := by
  intro D aC p e R s m args below meth c Φ hc he H locs cells slots ls ha
  obtain ⟨hH, hl, hLn, hLo, hSo⟩ := id ha
  refine lv_istore_n hc.1 hc.2.1 hd rfl hl (by rw [← hLn]; exact hi) rfl (fun ls' h' => ?_)
  exact k D aC p e R s m args below meth c Φ hc he H locs cells slots ls' ⟨hH, jst1 (v := jI x) h', (jset1_len L _).trans hLn, jset1_ok (v := jI x) hSo.1 L _ hLo, hSo.2⟩
theorem J_istore {i : Nat} {x : Int} (hd : decode mm.2.1 pc = .ok (.istore i, 2)) (hi : i < L.length) (k : J l z X d mm a (pc + 2) (jset1 L i (jI x)) S μ Q) : J l z X d mm a pc L (jI x :: S) μ Q := by
  intro D aC p e R s m args below meth c Φ hc he H locs cells slots ls ha
  obtain ⟨hH, hl, hLn, hLo, hSo⟩ := id ha
  refine lv_istore hc.1 hc.2.1 hd hl (by rw [← hLn]; exact hi) rfl (fun ls' h' => ?_)
  exact k D aC p e R s m args below meth c Φ hc he H locs cells slots ls' ⟨hH, jst1 (v := jI x) h', (jset1_len L _).trans hLn, jset1_ok (v := jI x) hSo.1 L _ hLo, hSo.2⟩
theorem J_lstore_n {k0 : Fin 4} {x : Int} (hd : decode mm.2.1 pc = .ok (.lstore_n k0, 1)) (hi : (k0 : Nat) + 1 < L.length) (k : J l z X d mm a (pc + 1) (jset2 L (k0 : Nat) (jL x)) S μ Q) : J l z X d mm a pc L (jL x :: S) μ Q := by
  intro D aC p e R s m args below meth c Φ hc he H locs cells slots ls ha
  obtain ⟨hH, hl, hLn, hLo, hSo⟩ := id ha
  refine lv_lstore_n hc.1 hc.2.1 hd rfl hl (by rw [← hLn]; exact hi) rfl (fun ls' h' => ?_)
  exact k D aC p e R s m args below meth c Φ hc he H locs cells slots ls' ⟨hH, jst2 (v := jL x) h', (jset2_len L _).trans hLn, jset2_ok (v := jL x) hSo.1 L _ hLo, hSo.2⟩
theorem J_lstore {i : Nat} {x : Int} (hd : decode mm.2.1 pc = .ok (.lstore i, 2)) (hi : i + 1 < L.length) (k : J l z X d mm a (pc + 2) (jset2 L i (jL x)) S μ Q) : J l z X d mm a pc L (jL x :: S) μ Q := by
  intro D aC p e R s m args below meth c Φ hc he H locs cells slots ls ha
  obtain ⟨hH, hl, hLn, hLo, hSo⟩ := id ha
  refine lv_lstore hc.1 hc.2.1 hd hl (by rw [← hLn]; exact hi) rfl (fun ls' h' => ?_)
  exact k D aC p e R s m args below meth c Φ hc he H locs cells slots ls' ⟨hH, jst2 (v := jL x) h', (jset2_len L _).trans hLn, jset2_ok (v := jL x) hSo.1 L _ hLo, hSo.2⟩
theorem J_astore_n {k0 : Fin 4} {x : Nat} (hd : decode mm.2.1 pc = .ok (.astore_n k0, 1)) (hi : (k0 : Nat) < L.length) (k : J l z X d mm a (pc + 1) (jset1 L (k0 : Nat) (jR x)) S μ Q) : J l z X d mm a pc L (jR x :: S) μ Q := by
  intro D aC p e R s m args below meth c Φ hc he H locs cells slots ls ha
  obtain ⟨hH, hl, hLn, hLo, hSo⟩ := id ha
  refine lv_astore_n hc.1 hc.2.1 hd rfl hl (by rw [← hLn]; exact hi) rfl (fun ls' h' => ?_)
  exact k D aC p e R s m args below meth c Φ hc he H locs cells slots ls' ⟨hH, jst1 (v := jR x) h', (jset1_len L _).trans hLn, jset1_ok (v := jR x) trivial L _ hLo, hSo.2⟩
theorem J_astore {i : Nat} {x : Nat} (hd : decode mm.2.1 pc = .ok (.astore i, 2)) (hi : i < L.length) (k : J l z X d mm a (pc + 2) (jset1 L i (jR x)) S μ Q) : J l z X d mm a pc L (jR x :: S) μ Q := by
  intro D aC p e R s m args below meth c Φ hc he H locs cells slots ls ha
  obtain ⟨hH, hl, hLn, hLo, hSo⟩ := id ha
  refine lv_astore hc.1 hc.2.1 hd hl (by rw [← hLn]; exact hi) rfl (fun ls' h' => ?_)
  exact k D aC p e R s m args below meth c Φ hc he H locs cells slots ls' ⟨hH, jst1 (v := jR x) h', (jset1_len L _).trans hLn, jset1_ok (v := jR x) trivial L _ hLo, hSo.2⟩
theorem J_iinc {i : Nat} {n x : Int} (hd : decode mm.2.1 pc = .ok (.iinc i n, 3)) (hk : L[i]? = some (jI x)) (hn : jIn n) (hr : jIn (x + n)) (k : J l z X d mm a (pc + 3) (jset1 L i (jI (x + n))) S μ Q) : J l z X d mm a pc L S μ Q := by
  intro D aC p e R s m args below meth c Φ hc he H locs cells slots ls ha
  obtain ⟨hH, hl, hLn, hLo, hSo⟩ := id ha
  obtain ⟨q, hq⟩ := List.getElem?_of_mem (jlv_mem (z := z) (X := X) (v := jI x) (by simp) L 0 i hk)
  rw [Nat.zero_add] at hq
  refine lv_iinc (v := Int32.ofInt (x + n)) hc.1 hc.2.1 hd hl hq (j32_add (jokL_at hLo hk) hn hr) (by rw [← hLn]; exact (List.getElem?_eq_some_iff.mp hk).1) rfl (fun ls' h' => ?_)
  exact k D aC p e R s m args below meth c Φ hc he H locs cells slots ls' ⟨hH, jst1 (v := jI (x + n)) h', (jset1_len L _).trans hLn, jset1_ok (v := jI (x + n)) hr L _ hLo, hSo⟩
theorem J_iadd {x y : Int} (hd : decode mm.2.1 pc = .ok (.iadd, 1)) (hr : jIn (x + y)) (k : J l z X d mm a (pc + 1) L (jI (x + y) :: S) μ Q) : J l z X d mm a pc L (jI y :: jI x :: S) μ Q := by
  intro D aC p e R s m args below meth c Φ hc he H locs cells slots ls ha
  obtain ⟨hH, hl, hLn, hLo, hSo⟩ := id ha
  refine lv_iadd hc.1 hc.2.1 hd ?_
  rw [j32_add hSo.2.1 hSo.1 hr]
  exact k D aC p e R s m args below meth c Φ hc he H locs cells slots ls ⟨hH, hl, hLn, hLo, ⟨hr, hSo.2.2⟩⟩
theorem J_ladd {x y : Int} (hd : decode mm.2.1 pc = .ok (.ladd, 1)) (hr : jInL (x + y)) (k : J l z X d mm a (pc + 1) L (jL (x + y) :: S) μ Q) : J l z X d mm a pc L (jL y :: jL x :: S) μ Q := by
  intro D aC p e R s m args below meth c Φ hc he H locs cells slots ls ha
  obtain ⟨hH, hl, hLn, hLo, hSo⟩ := id ha
  refine lv_ladd hc.1 hc.2.1 hd ?_
  rw [j64_add hSo.2.1 hSo.1 hr]
  exact k D aC p e R s m args below meth c Φ hc he H locs cells slots ls ⟨hH, hl, hLn, hLo, ⟨hr, hSo.2.2⟩⟩
theorem J_isub {x y : Int} (hd : decode mm.2.1 pc = .ok (.isub, 1)) (hr : jIn (x - y)) (k : J l z X d mm a (pc + 1) L (jI (x - y) :: S) μ Q) : J l z X d mm a pc L (jI y :: jI x :: S) μ Q := by
  intro D aC p e R s m args below meth c Φ hc he H locs cells slots ls ha
  obtain ⟨hH, hl, hLn, hLo, hSo⟩ := id ha
  refine lv_isub hc.1 hc.2.1 hd ?_
  rw [j32_sub hSo.2.1 hSo.1 hr]
  exact k D aC p e R s m args below meth c Φ hc he H locs cells slots ls ⟨hH, hl, hLn, hLo, ⟨hr, hSo.2.2⟩⟩
theorem J_lsub {x y : Int} (hd : decode mm.2.1 pc = .ok (.lsub, 1)) (hr : jInL (x - y)) (k : J l z X d mm a (pc + 1) L (jL (x - y) :: S) μ Q) : J l z X d mm a pc L (jL y :: jL x :: S) μ Q := by
  intro D aC p e R s m args below meth c Φ hc he H locs cells slots ls ha
  obtain ⟨hH, hl, hLn, hLo, hSo⟩ := id ha
  refine lv_lsub hc.1 hc.2.1 hd ?_
  rw [j64_sub hSo.2.1 hSo.1 hr]
  exact k D aC p e R s m args below meth c Φ hc he H locs cells slots ls ⟨hH, hl, hLn, hLo, ⟨hr, hSo.2.2⟩⟩
theorem J_imul {x y : Int} (hd : decode mm.2.1 pc = .ok (.imul, 1)) (hr : jIn (x * y)) (k : J l z X d mm a (pc + 1) L (jI (x * y) :: S) μ Q) : J l z X d mm a pc L (jI y :: jI x :: S) μ Q := by
  intro D aC p e R s m args below meth c Φ hc he H locs cells slots ls ha
  obtain ⟨hH, hl, hLn, hLo, hSo⟩ := id ha
  refine lv_imul hc.1 hc.2.1 hd ?_
  rw [j32_mul hSo.2.1 hSo.1 hr]
  exact k D aC p e R s m args below meth c Φ hc he H locs cells slots ls ⟨hH, hl, hLn, hLo, ⟨hr, hSo.2.2⟩⟩
theorem J_lmul {x y : Int} (hd : decode mm.2.1 pc = .ok (.lmul, 1)) (hr : jInL (x * y)) (k : J l z X d mm a (pc + 1) L (jL (x * y) :: S) μ Q) : J l z X d mm a pc L (jL y :: jL x :: S) μ Q := by
  intro D aC p e R s m args below meth c Φ hc he H locs cells slots ls ha
  obtain ⟨hH, hl, hLn, hLo, hSo⟩ := id ha
  refine lv_lmul hc.1 hc.2.1 hd ?_
  rw [j64_mul hSo.2.1 hSo.1 hr]
  exact k D aC p e R s m args below meth c Φ hc he H locs cells slots ls ⟨hH, hl, hLn, hLo, ⟨hr, hSo.2.2⟩⟩
theorem J_idiv {x y : Int} (hd : decode mm.2.1 pc = .ok (.idiv, 1)) (h0 : 0 ≤ x) (h1 : 0 < y) (k : J l z X d mm a (pc + 1) L (jI (x / y) :: S) μ Q) : J l z X d mm a pc L (jI y :: jI x :: S) μ Q := by
  intro D aC p e R s m args below meth c Φ hc he H locs cells slots ls ha
  obtain ⟨hH, hl, hLn, hLo, hSo⟩ := id ha
  refine lv_idiv hc.1 hc.2.1 hd (fun q => by rw [j32_0, j32_eq hSo.1 jIn0] at q; omega) ?_
  rw [(j32_div hSo.2.1 hSo.1 h0 h1).1]
  exact k D aC p e R s m args below meth c Φ hc he H locs cells slots ls ⟨hH, hl, hLn, hLo, ⟨(j32_div hSo.2.1 hSo.1 h0 h1).2, hSo.2.2⟩⟩
theorem J_ldiv {x y : Int} (hd : decode mm.2.1 pc = .ok (.ldiv, 1)) (h0 : 0 ≤ x) (h1 : 0 < y) (k : J l z X d mm a (pc + 1) L (jL (x / y) :: S) μ Q) : J l z X d mm a pc L (jL y :: jL x :: S) μ Q := by
  intro D aC p e R s m args below meth c Φ hc he H locs cells slots ls ha
  obtain ⟨hH, hl, hLn, hLo, hSo⟩ := id ha
  refine lv_ldiv hc.1 hc.2.1 hd (fun q => by rw [show (0 : Int64) = Int64.ofInt 0 by decide +kernel, ← Int64.toInt_inj, j64 hSo.1, j64 (by unfold jInL; omega)] at q; omega) ?_
  rw [(j64_div hSo.2.1 hSo.1 h0 h1).1]
  exact k D aC p e R s m args below meth c Φ hc he H locs cells slots ls ⟨hH, hl, hLn, hLo, ⟨(j64_div hSo.2.1 hSo.1 h0 h1).2, hSo.2.2⟩⟩
theorem J_irem {x y : Int} (hd : decode mm.2.1 pc = .ok (.irem, 1)) (h0 : 0 ≤ x) (h1 : 0 < y) (k : J l z X d mm a (pc + 1) L (jI (x % y) :: S) μ Q) : J l z X d mm a pc L (jI y :: jI x :: S) μ Q := by
  intro D aC p e R s m args below meth c Φ hc he H locs cells slots ls ha
  obtain ⟨hH, hl, hLn, hLo, hSo⟩ := id ha
  refine lv_irem hc.1 hc.2.1 hd (fun q => by rw [j32_0, j32_eq hSo.1 jIn0] at q; omega) ?_
  rw [(j32_mod hSo.2.1 hSo.1 h0 h1).1]
  exact k D aC p e R s m args below meth c Φ hc he H locs cells slots ls ⟨hH, hl, hLn, hLo, ⟨(j32_mod hSo.2.1 hSo.1 h0 h1).2, hSo.2.2⟩⟩
theorem J_lrem {x y : Int} (hd : decode mm.2.1 pc = .ok (.lrem, 1)) (h0 : 0 ≤ x) (h1 : 0 < y) (k : J l z X d mm a (pc + 1) L (jL (x % y) :: S) μ Q) : J l z X d mm a pc L (jL y :: jL x :: S) μ Q := by
  intro D aC p e R s m args below meth c Φ hc he H locs cells slots ls ha
  obtain ⟨hH, hl, hLn, hLo, hSo⟩ := id ha
  refine lv_lrem hc.1 hc.2.1 hd (fun q => by rw [show (0 : Int64) = Int64.ofInt 0 by decide +kernel, ← Int64.toInt_inj, j64 hSo.1, j64 (by unfold jInL; omega)] at q; omega) ?_
  rw [(j64_mod hSo.2.1 hSo.1 h0 h1).1]
  exact k D aC p e R s m args below meth c Φ hc he H locs cells slots ls ⟨hH, hl, hLn, hLo, ⟨(j64_mod hSo.2.1 hSo.1 h0 h1).2, hSo.2.2⟩⟩
theorem J_iand {x y : Int} (hd : decode mm.2.1 pc = .ok (.iand, 1)) (k : J l z X d mm a (pc + 1) L (jI (jand x y) :: S) μ Q) : J l z X d mm a pc L (jI y :: jI x :: S) μ Q := by
  intro D aC p e R s m args below meth c Φ hc he H locs cells slots ls ha
  obtain ⟨hH, hl, hLn, hLo, hSo⟩ := id ha
  refine lv_iand hc.1 hc.2.1 hd ?_
  have k1 := k D aC p e R s m args below meth c Φ hc he H locs cells slots ls ⟨hH, hl, hLn, hLo, ⟨jIn_toInt _, hSo.2.2⟩⟩
  simp only [List.map_cons, jval, jand, Int32.ofInt_toInt] at k1
  exact k1
theorem J_ior {x y : Int} (hd : decode mm.2.1 pc = .ok (.ior, 1)) (k : J l z X d mm a (pc + 1) L (jI (jor x y) :: S) μ Q) : J l z X d mm a pc L (jI y :: jI x :: S) μ Q := by
  intro D aC p e R s m args below meth c Φ hc he H locs cells slots ls ha
  obtain ⟨hH, hl, hLn, hLo, hSo⟩ := id ha
  refine lv_ior hc.1 hc.2.1 hd ?_
  have k1 := k D aC p e R s m args below meth c Φ hc he H locs cells slots ls ⟨hH, hl, hLn, hLo, ⟨jIn_toInt _, hSo.2.2⟩⟩
  simp only [List.map_cons, jval, jor, Int32.ofInt_toInt] at k1
  exact k1
theorem J_ixor {x y : Int} (hd : decode mm.2.1 pc = .ok (.ixor, 1)) (k : J l z X d mm a (pc + 1) L (jI (jxor x y) :: S) μ Q) : J l z X d mm a pc L (jI y :: jI x :: S) μ Q := by
  intro D aC p e R s m args below meth c Φ hc he H locs cells slots ls ha
  obtain ⟨hH, hl, hLn, hLo, hSo⟩ := id ha
  refine lv_ixor hc.1 hc.2.1 hd ?_
  have k1 := k D aC p e R s m args below meth c Φ hc he H locs cells slots ls ⟨hH, hl, hLn, hLo, ⟨jIn_toInt _, hSo.2.2⟩⟩
  simp only [List.map_cons, jval, jxor, Int32.ofInt_toInt] at k1
  exact k1
theorem J_ishl {x y : Int} (hd : decode mm.2.1 pc = .ok (.ishl, 1)) (k : J l z X d mm a (pc + 1) L (jI (jshl x y) :: S) μ Q) : J l z X d mm a pc L (jI y :: jI x :: S) μ Q := by
  intro D aC p e R s m args below meth c Φ hc he H locs cells slots ls ha
  obtain ⟨hH, hl, hLn, hLo, hSo⟩ := id ha
  refine lv_ishl hc.1 hc.2.1 hd ?_
  have k1 := k D aC p e R s m args below meth c Φ hc he H locs cells slots ls ⟨hH, hl, hLn, hLo, ⟨jIn_toInt _, hSo.2.2⟩⟩
  simp only [List.map_cons, jval, jshl, Int32.ofInt_toInt] at k1
  exact k1
theorem J_ishr {x y : Int} (hd : decode mm.2.1 pc = .ok (.ishr, 1)) (k : J l z X d mm a (pc + 1) L (jI (jshr x y) :: S) μ Q) : J l z X d mm a pc L (jI y :: jI x :: S) μ Q := by
  intro D aC p e R s m args below meth c Φ hc he H locs cells slots ls ha
  obtain ⟨hH, hl, hLn, hLo, hSo⟩ := id ha
  refine lv_ishr hc.1 hc.2.1 hd ?_
  have k1 := k D aC p e R s m args below meth c Φ hc he H locs cells slots ls ⟨hH, hl, hLn, hLo, ⟨jIn_toInt _, hSo.2.2⟩⟩
  simp only [List.map_cons, jval, jshr, Int32.ofInt_toInt] at k1
  exact k1
theorem J_iushr {x y : Int} (hd : decode mm.2.1 pc = .ok (.iushr, 1)) (k : J l z X d mm a (pc + 1) L (jI (jushr x y) :: S) μ Q) : J l z X d mm a pc L (jI y :: jI x :: S) μ Q := by
  intro D aC p e R s m args below meth c Φ hc he H locs cells slots ls ha
  obtain ⟨hH, hl, hLn, hLo, hSo⟩ := id ha
  refine lv_iushr hc.1 hc.2.1 hd rfl ?_
  have k1 := k D aC p e R s m args below meth c Φ hc he H locs cells slots ls ⟨hH, hl, hLn, hLo, ⟨jIn_toInt _, hSo.2.2⟩⟩
  simp only [List.map_cons, jval, jushr, Int32.ofInt_toInt] at k1
  exact k1
theorem J_i2l {x : Int} (hd : decode mm.2.1 pc = .ok (.i2l, 1)) (k : J l z X d mm a (pc + 1) L (jL x :: S) μ Q) : J l z X d mm a pc L (jI x :: S) μ Q := by
  intro D aC p e R s m args below meth c Φ hc he H locs cells slots ls ha
  obtain ⟨hH, hl, hLn, hLo, hSo⟩ := id ha
  refine lv_i2l (v := Int64.ofInt x) hc.1 hc.2.1 hd (j32_64 hSo.1) ?_
  exact k D aC p e R s m args below meth c Φ hc he H locs cells slots ls ⟨hH, hl, hLn, hLo, ⟨⟨by have := hSo.1.1; omega, by have := hSo.1.2; omega⟩, hSo.2⟩⟩
theorem J_l2i {x : Int} (hd : decode mm.2.1 pc = .ok (.l2i, 1)) (hr : jIn x) (k : J l z X d mm a (pc + 1) L (jI x :: S) μ Q) : J l z X d mm a pc L (jL x :: S) μ Q := by
  intro D aC p e R s m args below meth c Φ hc he H locs cells slots ls ha
  obtain ⟨hH, hl, hLn, hLo, hSo⟩ := id ha
  refine lv_l2i (v := Int32.ofInt x) hc.1 hc.2.1 hd (Int64.toInt32_ofInt) ?_
  exact k D aC p e R s m args below meth c Φ hc he H locs cells slots ls ⟨hH, hl, hLn, hLo, ⟨hr, hSo.2⟩⟩
theorem J_lcmp {x y : Int} (hd : decode mm.2.1 pc = .ok (.lcmp, 1)) (k : J l z X d mm a (pc + 1) L (jI (if y < x then 1 else if x = y then 0 else -1) :: S) μ Q) : J l z X d mm a pc L (jL y :: jL x :: S) μ Q := by
  intro D aC p e R s m args below meth c Φ hc he H locs cells slots ls ha
  obtain ⟨hH, hl, hLn, hLo, hSo⟩ := id ha
  refine W.lcmp hc.1 hc.2.1 hd ?_
  have e9 : lg_cmp (Int64.ofInt x) (Int64.ofInt y) = Int32.ofInt (if y < x then 1 else if x = y then 0 else -1) := by
    have e1 : (Int64.ofInt x > Int64.ofInt y) ↔ y < x := by
      show Int64.ofInt y < Int64.ofInt x ↔ _
      rw [Int64.lt_iff_toInt_lt, j64 hSo.1, j64 hSo.2.1]
    have e2 : (Int64.ofInt x = Int64.ofInt y) ↔ x = y := by rw [← Int64.toInt_inj, j64 hSo.1, j64 hSo.2.1]
    unfold lg_cmp
    simp only [e1, e2]
    by_cases h1 : y < x
    · rw [if_pos h1, if_pos h1]; decide +kernel
    · rw [if_neg h1, if_neg h1]
      by_cases h2 : x = y
      · rw [if_pos h2, if_pos h2]; decide +kernel
      · rw [if_neg h2, if_neg h2]; decide +kernel
  rw [e9]
  refine k D aC p e R s m args below meth c Φ hc he H locs cells slots ls ⟨hH, hl, hLn, hLo, ⟨?_, hSo.2.2⟩⟩
  show jIn _
  unfold jIn
  by_cases h1 : y < x
  · rw [if_pos h1]; omega
  · rw [if_neg h1]
    by_cases h2 : x = y
    · rw [if_pos h2]; omega
    · rw [if_neg h2]; omega
theorem J_dup2_II {x : Int} {y : Int} (hd : decode mm.2.1 pc = .ok (.dup2, 1)) (k : J l z X d mm a (pc + 1) L (jI y :: jI x :: jI y :: jI x :: S) μ Q) : J l z X d mm a pc L (jI y :: jI x :: S) μ Q := by
  intro D aC p e R s m args below meth c Φ hc he H locs cells slots ls ha
  obtain ⟨hH, hl, hLn, hLo, hSo⟩ := id ha
  refine lv_dup2_11 hc.1 hc.2.1 hd rfl rfl ?_
  exact k D aC p e R s m args below meth c Φ hc he H locs cells slots ls ⟨hH, hl, hLn, hLo, ⟨hSo.1, hSo.2.1, hSo⟩⟩
theorem J_dup2_RI {x : Nat} {y : Int} (hd : decode mm.2.1 pc = .ok (.dup2, 1)) (k : J l z X d mm a (pc + 1) L (jI y :: jR x :: jI y :: jR x :: S) μ Q) : J l z X d mm a pc L (jI y :: jR x :: S) μ Q := by
  intro D aC p e R s m args below meth c Φ hc he H locs cells slots ls ha
  obtain ⟨hH, hl, hLn, hLo, hSo⟩ := id ha
  refine lv_dup2_11 hc.1 hc.2.1 hd rfl rfl ?_
  exact k D aC p e R s m args below meth c Φ hc he H locs cells slots ls ⟨hH, hl, hLn, hLo, ⟨hSo.1, hSo.2.1, hSo⟩⟩
theorem J_dup2_RR {x : Nat} {y : Nat} (hd : decode mm.2.1 pc = .ok (.dup2, 1)) (k : J l z X d mm a (pc + 1) L (jR y :: jR x :: jR y :: jR x :: S) μ Q) : J l z X d mm a pc L (jR y :: jR x :: S) μ Q := by
  intro D aC p e R s m args below meth c Φ hc he H locs cells slots ls ha
  obtain ⟨hH, hl, hLn, hLo, hSo⟩ := id ha
  refine lv_dup2_11 hc.1 hc.2.1 hd rfl rfl ?_
  exact k D aC p e R s m args below meth c Φ hc he H locs cells slots ls ⟨hH, hl, hLn, hLo, ⟨hSo.1, hSo.2.1, hSo⟩⟩
theorem J_dupI {x : Int} (hd : decode mm.2.1 pc = .ok (.dup, 1)) (k : J l z X d mm a (pc + 1) L (jI x :: jI x :: S) μ Q) : J l z X d mm a pc L (jI x :: S) μ Q := by
  intro D aC p e R s m args below meth c Φ hc he H locs cells slots ls ha
  obtain ⟨hH, hl, hLn, hLo, hSo⟩ := id ha
  refine lv_dup hc.1 hc.2.1 hd rfl ?_
  exact k D aC p e R s m args below meth c Φ hc he H locs cells slots ls ⟨hH, hl, hLn, hLo, ⟨hSo.1, hSo⟩⟩
theorem J_dupR {x : Nat} (hd : decode mm.2.1 pc = .ok (.dup, 1)) (k : J l z X d mm a (pc + 1) L (jR x :: jR x :: S) μ Q) : J l z X d mm a pc L (jR x :: S) μ Q := by
  intro D aC p e R s m args below meth c Φ hc he H locs cells slots ls ha
  obtain ⟨hH, hl, hLn, hLo, hSo⟩ := id ha
  refine lv_dup hc.1 hc.2.1 hd rfl ?_
  exact k D aC p e R s m args below meth c Φ hc he H locs cells slots ls ⟨hH, hl, hLn, hLo, ⟨hSo.1, hSo⟩⟩
theorem J_if_eq {x off : Int} {tgt : Nat} (hd : decode mm.2.1 pc = .ok (.ifCond .eq off, 3)) (ht : (pc : Int) + off = (tgt : Int)) (kt : x = 0 → J l z X d mm a tgt L S μ Q) (kf : x ≠ 0 → J l z X d mm a (pc + 3) L S μ Q) : J l z X d mm a pc L (jI x :: S) μ Q := by
  intro D aC p e R s m args below meth c Φ hc he H locs cells slots ls ha
  obtain ⟨hH, hl, hLn, hLo, hSo⟩ := id ha
  have e9 := (j32_eq hSo.1 jIn0)
  rw [← j32_0] at e9
  refine lv_if_eq hc.1 hc.2.1 hd ht (fun q => kt (by rw [e9] at q; omega) D aC p e R s m args below meth c Φ hc he H locs cells slots ls ⟨hH, hl, hLn, hLo, hSo.2⟩) (fun q => kf (by rw [e9] at q; omega) D aC p e R s m args below meth c Φ hc he H locs cells slots ls ⟨hH, hl, hLn, hLo, hSo.2⟩)
theorem J_if_ne {x off : Int} {tgt : Nat} (hd : decode mm.2.1 pc = .ok (.ifCond .ne off, 3)) (ht : (pc : Int) + off = (tgt : Int)) (kt : x ≠ 0 → J l z X d mm a tgt L S μ Q) (kf : x = 0 → J l z X d mm a (pc + 3) L S μ Q) : J l z X d mm a pc L (jI x :: S) μ Q := by
  intro D aC p e R s m args below meth c Φ hc he H locs cells slots ls ha
  obtain ⟨hH, hl, hLn, hLo, hSo⟩ := id ha
  have e9 := (j32_eq hSo.1 jIn0)
  rw [← j32_0] at e9
  refine lv_if_ne hc.1 hc.2.1 hd ht (fun q => kt (by rw [e9] at q; omega) D aC p e R s m args below meth c Φ hc he H locs cells slots ls ⟨hH, hl, hLn, hLo, hSo.2⟩) (fun q => kf (by rw [e9] at q; omega) D aC p e R s m args below meth c Φ hc he H locs cells slots ls ⟨hH, hl, hLn, hLo, hSo.2⟩)
theorem J_if_lt {x off : Int} {tgt : Nat} (hd : decode mm.2.1 pc = .ok (.ifCond .lt off, 3)) (ht : (pc : Int) + off = (tgt : Int)) (kt : x < 0 → J l z X d mm a tgt L S μ Q) (kf : 0 ≤ x → J l z X d mm a (pc + 3) L S μ Q) : J l z X d mm a pc L (jI x :: S) μ Q := by
  intro D aC p e R s m args below meth c Φ hc he H locs cells slots ls ha
  obtain ⟨hH, hl, hLn, hLo, hSo⟩ := id ha
  have e9 := (j32_lt hSo.1 jIn0)
  rw [← j32_0] at e9
  refine lv_if_lt hc.1 hc.2.1 hd ht (fun q => kt (by rw [e9] at q; omega) D aC p e R s m args below meth c Φ hc he H locs cells slots ls ⟨hH, hl, hLn, hLo, hSo.2⟩) (fun q => kf (by rw [e9] at q; omega) D aC p e R s m args below meth c Φ hc he H locs cells slots ls ⟨hH, hl, hLn, hLo, hSo.2⟩)
theorem J_if_ge {x off : Int} {tgt : Nat} (hd : decode mm.2.1 pc = .ok (.ifCond .ge off, 3)) (ht : (pc : Int) + off = (tgt : Int)) (kt : 0 ≤ x → J l z X d mm a tgt L S μ Q) (kf : x < 0 → J l z X d mm a (pc + 3) L S μ Q) : J l z X d mm a pc L (jI x :: S) μ Q := by
  intro D aC p e R s m args below meth c Φ hc he H locs cells slots ls ha
  obtain ⟨hH, hl, hLn, hLo, hSo⟩ := id ha
  have e9 := (j32_le jIn0 hSo.1)
  rw [← j32_0] at e9
  refine lv_if_ge hc.1 hc.2.1 hd ht (fun q => kt (by rw [e9] at q; omega) D aC p e R s m args below meth c Φ hc he H locs cells slots ls ⟨hH, hl, hLn, hLo, hSo.2⟩) (fun q => kf (by rw [e9] at q; omega) D aC p e R s m args below meth c Φ hc he H locs cells slots ls ⟨hH, hl, hLn, hLo, hSo.2⟩)
theorem J_if_gt {x off : Int} {tgt : Nat} (hd : decode mm.2.1 pc = .ok (.ifCond .gt off, 3)) (ht : (pc : Int) + off = (tgt : Int)) (kt : 0 < x → J l z X d mm a tgt L S μ Q) (kf : x ≤ 0 → J l z X d mm a (pc + 3) L S μ Q) : J l z X d mm a pc L (jI x :: S) μ Q := by
  intro D aC p e R s m args below meth c Φ hc he H locs cells slots ls ha
  obtain ⟨hH, hl, hLn, hLo, hSo⟩ := id ha
  have e9 := (j32_lt jIn0 hSo.1)
  rw [← j32_0] at e9
  refine lv_if_gt hc.1 hc.2.1 hd ht (fun q => kt (by rw [e9] at q; omega) D aC p e R s m args below meth c Φ hc he H locs cells slots ls ⟨hH, hl, hLn, hLo, hSo.2⟩) (fun q => kf (by rw [e9] at q; omega) D aC p e R s m args below meth c Φ hc he H locs cells slots ls ⟨hH, hl, hLn, hLo, hSo.2⟩)
theorem J_if_le {x off : Int} {tgt : Nat} (hd : decode mm.2.1 pc = .ok (.ifCond .le off, 3)) (ht : (pc : Int) + off = (tgt : Int)) (kt : x ≤ 0 → J l z X d mm a tgt L S μ Q) (kf : 0 < x → J l z X d mm a (pc + 3) L S μ Q) : J l z X d mm a pc L (jI x :: S) μ Q := by
  intro D aC p e R s m args below meth c Φ hc he H locs cells slots ls ha
  obtain ⟨hH, hl, hLn, hLo, hSo⟩ := id ha
  have e9 := (j32_le hSo.1 jIn0)
  rw [← j32_0] at e9
  refine lv_if_le hc.1 hc.2.1 hd ht (fun q => kt (by rw [e9] at q; omega) D aC p e R s m args below meth c Φ hc he H locs cells slots ls ⟨hH, hl, hLn, hLo, hSo.2⟩) (fun q => kf (by rw [e9] at q; omega) D aC p e R s m args below meth c Φ hc he H locs cells slots ls ⟨hH, hl, hLn, hLo, hSo.2⟩)
theorem J_icmp_eq {x y off : Int} {tgt : Nat} (hd : decode mm.2.1 pc = .ok (.if_icmp .eq off, 3)) (ht : (pc : Int) + off = (tgt : Int)) (kt : x = y → J l z X d mm a tgt L S μ Q) (kf : x ≠ y → J l z X d mm a (pc + 3) L S μ Q) : J l z X d mm a pc L (jI y :: jI x :: S) μ Q := by
  intro D aC p e R s m args below meth c Φ hc he H locs cells slots ls ha
  obtain ⟨hH, hl, hLn, hLo, hSo⟩ := id ha
  have e9 := (j32_eq hSo.2.1 hSo.1)
  refine lv_icmp_eq hc.1 hc.2.1 hd ht (fun q => kt (by rw [e9] at q; omega) D aC p e R s m args below meth c Φ hc he H locs cells slots ls ⟨hH, hl, hLn, hLo, hSo.2.2⟩) (fun q => kf (by rw [e9] at q; omega) D aC p e R s m args below meth c Φ hc he H locs cells slots ls ⟨hH, hl, hLn, hLo, hSo.2.2⟩)
theorem J_icmp_ne {x y off : Int} {tgt : Nat} (hd : decode mm.2.1 pc = .ok (.if_icmp .ne off, 3)) (ht : (pc : Int) + off = (tgt : Int)) (kt : x ≠ y → J l z X d mm a tgt L S μ Q) (kf : x = y → J l z X d mm a (pc + 3) L S μ Q) : J l z X d mm a pc L (jI y :: jI x :: S) μ Q := by
  intro D aC p e R s m args below meth c Φ hc he H locs cells slots ls ha
  obtain ⟨hH, hl, hLn, hLo, hSo⟩ := id ha
  have e9 := (j32_eq hSo.2.1 hSo.1)
  refine lv_icmp_ne hc.1 hc.2.1 hd ht (fun q => kt (by rw [e9] at q; omega) D aC p e R s m args below meth c Φ hc he H locs cells slots ls ⟨hH, hl, hLn, hLo, hSo.2.2⟩) (fun q => kf (by rw [e9] at q; omega) D aC p e R s m args below meth c Φ hc he H locs cells slots ls ⟨hH, hl, hLn, hLo, hSo.2.2⟩)
theorem J_icmp_lt {x y off : Int} {tgt : Nat} (hd : decode mm.2.1 pc = .ok (.if_icmp .lt off, 3)) (ht : (pc : Int) + off = (tgt : Int)) (kt : x < y → J l z X d mm a tgt L S μ Q) (kf : y ≤ x → J l z X d mm a (pc + 3) L S μ Q) : J l z X d mm a pc L (jI y :: jI x :: S) μ Q := by
  intro D aC p e R s m args below meth c Φ hc he H locs cells slots ls ha
  obtain ⟨hH, hl, hLn, hLo, hSo⟩ := id ha
  have e9 := (j32_lt hSo.2.1 hSo.1)
  refine lv_icmp_lt hc.1 hc.2.1 hd ht (fun q => kt (by rw [e9] at q; omega) D aC p e R s m args below meth c Φ hc he H locs cells slots ls ⟨hH, hl, hLn, hLo, hSo.2.2⟩) (fun q => kf (by rw [e9] at q; omega) D aC p e R s m args below meth c Φ hc he H locs cells slots ls ⟨hH, hl, hLn, hLo, hSo.2.2⟩)
theorem J_icmp_ge {x y off : Int} {tgt : Nat} (hd : decode mm.2.1 pc = .ok (.if_icmp .ge off, 3)) (ht : (pc : Int) + off = (tgt : Int)) (kt : y ≤ x → J l z X d mm a tgt L S μ Q) (kf : x < y → J l z X d mm a (pc + 3) L S μ Q) : J l z X d mm a pc L (jI y :: jI x :: S) μ Q := by
  intro D aC p e R s m args below meth c Φ hc he H locs cells slots ls ha
  obtain ⟨hH, hl, hLn, hLo, hSo⟩ := id ha
  have e9 := (j32_le hSo.1 hSo.2.1)
  refine lv_icmp_ge hc.1 hc.2.1 hd ht (fun q => kt (by rw [e9] at q; omega) D aC p e R s m args below meth c Φ hc he H locs cells slots ls ⟨hH, hl, hLn, hLo, hSo.2.2⟩) (fun q => kf (by rw [e9] at q; omega) D aC p e R s m args below meth c Φ hc he H locs cells slots ls ⟨hH, hl, hLn, hLo, hSo.2.2⟩)
theorem J_icmp_gt {x y off : Int} {tgt : Nat} (hd : decode mm.2.1 pc = .ok (.if_icmp .gt off, 3)) (ht : (pc : Int) + off = (tgt : Int)) (kt : y < x → J l z X d mm a tgt L S μ Q) (kf : x ≤ y → J l z X d mm a (pc + 3) L S μ Q) : J l z X d mm a pc L (jI y :: jI x :: S) μ Q := by
  intro D aC p e R s m args below meth c Φ hc he H locs cells slots ls ha
  obtain ⟨hH, hl, hLn, hLo, hSo⟩ := id ha
  have e9 := (j32_lt hSo.1 hSo.2.1)
  refine lv_icmp_gt hc.1 hc.2.1 hd ht (fun q => kt (by rw [e9] at q; omega) D aC p e R s m args below meth c Φ hc he H locs cells slots ls ⟨hH, hl, hLn, hLo, hSo.2.2⟩) (fun q => kf (by rw [e9] at q; omega) D aC p e R s m args below meth c Φ hc he H locs cells slots ls ⟨hH, hl, hLn, hLo, hSo.2.2⟩)
theorem J_icmp_le {x y off : Int} {tgt : Nat} (hd : decode mm.2.1 pc = .ok (.if_icmp .le off, 3)) (ht : (pc : Int) + off = (tgt : Int)) (kt : x ≤ y → J l z X d mm a tgt L S μ Q) (kf : y < x → J l z X d mm a (pc + 3) L S μ Q) : J l z X d mm a pc L (jI y :: jI x :: S) μ Q := by
  intro D aC p e R s m args below meth c Φ hc he H locs cells slots ls ha
  obtain ⟨hH, hl, hLn, hLo, hSo⟩ := id ha
  have e9 := (j32_le hSo.2.1 hSo.1)
  refine lv_icmp_le hc.1 hc.2.1 hd ht (fun q => kt (by rw [e9] at q; omega) D aC p e R s m args below meth c Φ hc he H locs cells slots ls ⟨hH, hl, hLn, hLo, hSo.2.2⟩) (fun q => kf (by rw [e9] at q; omega) D aC p e R s m args below meth c Φ hc he H locs cells slots ls ⟨hH, hl, hLn, hLo, hSo.2.2⟩)
theorem J_goto {off : Int} {tgt : Nat} (hd : decode mm.2.1 pc = .ok (.goto off, 3)) (ht : (pc : Int) + off = (tgt : Int)) (k : J l z X d mm a tgt L S μ Q) : J l z X d mm a pc L S μ Q := by
  intro D aC p e R s m args below meth c Φ hc he H locs cells slots ls ha
  obtain ⟨hH, hl, hLn, hLo, hSo⟩ := id ha
  exact lv_goto hc.1 hc.2.1 hd ht (k D aC p e R s m args below meth c Φ hc he H locs cells slots ls ⟨hH, hl, hLn, hLo, hSo⟩)
theorem J_switch {dflt lo hi x : Int} {offs : Array Int} {len : Nat} {T : Nat → Nat} {tgt : Nat} (hd : decode mm.2.1 pc = .ok (.tableswitch dflt lo hi offs, len)) (ht : (pc : Int) + dflt = (tgt : Int)) (hT : ∀ k : Nat, lo + (k : Int) ≤ hi → ∃ off : Int, offs[k]? = some off ∧ (pc : Int) + off = (T k : Int))
    (kd : (x < lo ∨ hi < x) → J l z X d mm a tgt L S μ Q) (ki : ∀ k : Nat, lo + (k : Int) ≤ hi → x = lo + (k : Int) → J l z X d mm a (T k) L S μ Q) : J l z X d mm a pc L (jI x :: S) μ Q := by
  intro D aC p e R s m args below meth c Φ hc he H locs cells slots ls ha
  obtain ⟨hH, hl, hLn, hLo, hSo⟩ := id ha
  by_cases q : x < lo ∨ hi < x
  · exact lv_tableOut hc.1 hc.2.1 hd (by rw [j32 hSo.1]; exact q) ht (kd q D aC p e R s m args below meth c Φ hc he H locs cells slots ls ⟨hH, hl, hLn, hLo, hSo.2⟩)
  · have e9 : x = lo + ((x - lo).toNat : Int) := by omega
    obtain ⟨off, h1, h2⟩ := hT (x - lo).toNat (by omega)
    exact lv_tableIn hc.1 hc.2.1 hd (by rw [j32 hSo.1]; omega) (by rw [j32 hSo.1]; omega) (by rw [j32 hSo.1]; exact h1) h2 (ki (x - lo).toNat (by omega) e9 D aC p e R s m args below meth c Φ hc he H locs cells slots ls ⟨hH, hl, hLn, hLo, hSo.2⟩)
theorem J_vret (hd : decode mm.2.1 pc = .ok (.return_, 1)) (hr : mm.2.2.2.1 = none) (k : Q none μ) : J l z X d mm a pc L [] μ Q := fun D aC p e R s m args below meth c Φ hc he H locs cells slots ls ha => he none μ k a L H locs cells slots ls pc ha ⟨hr, hd⟩
theorem J_iret {x : Int} (hd : decode mm.2.1 pc = .ok (.ireturn, 1)) (hr : mm.2.2.2.1 = some .int) (k : Q (some (jI x)) μ) : J l z X d mm a pc L [jI x] μ Q := fun D aC p e R s m args below meth c Φ hc he H locs cells slots ls ha => he (some (jI x)) μ k a L H locs cells slots ls pc ha ⟨Or.inl hr, hd⟩
theorem J_zret {x : Int} (hd : decode mm.2.1 pc = .ok (.ireturn, 1)) (hr : mm.2.2.2.1 = some .boolean) (hx : x = 0 ∨ x = 1) (k : Q (some (jI x)) μ) : J l z X d mm a pc L [jI x] μ Q := fun D aC p e R s m args below meth c Φ hc he H locs cells slots ls ha => he (some (jI x)) μ k a L H locs cells slots ls pc ha ⟨Or.inr ⟨hr, hx⟩, hd⟩
theorem J_lret {x : Int} (hd : decode mm.2.1 pc = .ok (.lreturn, 1)) (hr : mm.2.2.2.1 = some .long) (k : Q (some (jL x)) μ) : J l z X d mm a pc L [jL x] μ Q := fun D aC p e R s m args below meth c Φ hc he H locs cells slots ls ha => he (some (jL x)) μ k a L H locs cells slots ls pc ha ⟨hr, hd⟩
/-- what the ranges say, for a proof that wants it -/
theorem J_known (k : jokL L → jokL S → jokM μ → J l z X d mm a pc L S μ Q) : J l z X d mm a pc L S μ Q := fun D aC p e R s m args below meth c Φ hc he H locs cells slots ls ha => k ha.2.2.2.1 ha.2.2.2.2 ha.1.2.2.2.2.2 D aC p e R s m args below meth c Φ hc he H locs cells slots ls ha
theorem J_mono {Q' : Option jV → jM → Prop} (h : ∀ r μ, Q' r μ → Q r μ) (k : J l z X d mm a pc L S μ Q') : J l z X d mm a pc L S μ Q := fun D aC p e R s m args below meth c Φ hc he H locs cells slots ls ha => k D aC p e R s m args below meth c Φ hc (fun r μ q => he r μ (h r μ q)) H locs cells slots ls ha
end RULES
end
section
/-! ## fields -/
/-- a class of the worlds: its number, its table, the words of its fields -/
def jCl (ci : Nat) (C : String) (T : u_T) (n : Nat) : Prop := vwCl[ci]? = some (C, T, n) ∧ (∀ w ∈ u_ws C T n, w ∈ jW) ∧ (∀ k, k < n → parseFieldDescriptor (T k).2.2.1 = some (jfty ci k)) ∧ (∀ a, a < n → ∀ b, b < n → a ≠ b → (T a).2.1 ≠ (T b).2.1) ∧ ∀ k, k < n → (T k).1 = C
theorem jfs_get {z ci n k : Nat} {rs : List (Option Nat)} {f : Int → Int} (hk : k < n) : ((List.range n).map (jfv z ci rs f))[k]? = some (jfv z ci rs f k) := by
  rw [List.getElem?_map, List.getElem?_range hk]; rfl
theorem jfs_set {z ci n k : Nat} {rs rs' : List (Option Nat)} {f f' : Int → Int} {v : Value} (hk : k < n) (hv : v = jfv z ci rs' f' k) (ho : ∀ j, j ≠ k → jfv z ci rs' f' j = jfv z ci rs f j) : ((List.range n).map (jfv z ci rs f)).set k v = (List.range n).map (jfv z ci rs' f') := by
  apply List.ext_getElem?
  intro j
  rw [List.getElem?_set]
  simp only [List.length_map, List.length_range, List.getElem?_map]
  by_cases hjk : k = j
  · subst hjk
    simp [hk, hv]
  · rw [if_neg hjk]
    by_cases hj : j < n
    · rw [List.getElem?_range hj]
      simp [ho j (fun e => hjk e.symm)]
    · simp [hj]
theorem jget0 {G : List jKd} {k : Nat} {kd : jKd} (h : G[k]? = some kd) : G.getD k (0, 0, []) = kd := by rw [List.getD_eq_getElem?_getD, h]; rfl
section HEAPR
variable {l : Launch} {z : Nat} {X : jX} {d : Nat} {mm : jMt} {a : Nat × Nat} {pc : Nat} {L S : List jV} {G : List jKd} {M : Nat → Int → Int} {Q : Option jV → jM → Prop}
/-- the heap's part behind a write into cell k -/
theorem jHp_put {D : va_G} {aC : Nat → ClassId} {R : Room} {s : State} {H1 : Heap} {H : Heap} {locs : List Loc} {cells slots k i : Nat} {kd kd' : jKd} {G' : List jKd} {M' : Nat → Int → Int} {E : va_E} (h : jHp z D aC R a s (G, M) H locs cells slots) (hk : G[k]? = some kd) (hE : va_at D vwCl (z + k, E) H1) (hz : H1.size = H.size) (ho : ∀ q : Nat, q ≠ z + k → H1[q]? = H[q]?) (hl : G'.length = G.length) (hk' : G'.getD k (0, 0, []) = kd') (h1 : E = jent z aC kd' (M' k)) (h2 : ∀ j, j ≠ k → G'.getD j (0, 0, []) = G.getD j (0, 0, []) ∧ M' j = M j) (hM : jokM (G', M')) : jHp z D aC R a s (G', M') H1 (locs ++ [⟨z + k, i⟩]) cells slots := by
  obtain ⟨hs, hP, hS, h4, h5, -⟩ := h
  have hP1 := hP.set jws_D (jws_get hk) hE ho
  rw [jws_set hl (by rw [hk']; exact h1) h2] at hP1
  refine ⟨?_, hP1, hS.put hz ho (Nat.le_add_right _ _), h4, h5, hM⟩
  rw [hz, hs]
  show z + G.length = z + G'.length
  rw [hl]
theorem J_getI {ci n index k h : Nat} {kz : Int} {rs : List (Option Nat)} {C : String} {T : u_T} (hcl : jCl ci C T n) (hd : decode mm.2.1 pc = .ok (.getfield index, 3)) (hw : Cond.fieldLink mm.1.cls index C (T k).2.1 (T k).2.2.1 ∈ jW) (hG : G[h]? = some (ci + 5, n, rs)) (hk : k < n) (hkz : (k : Int) = kz) (hr : jisref (jfty ci k) = false) (kk : J l z X d mm a (pc + 3) L (jI (M h kz) :: S) (G, M) Q) : J l z X d mm a pc L (jR h :: S) (G, M) Q := by
  intro D aC p e R s m args below meth c Φ hc he H locs cells slots ls ha
  obtain ⟨hH, hl, hLn, hLo, hSo⟩ := id ha
  obtain ⟨hHs, hP, hS, hcl0, hsl0, hM⟩ := id hH
  subst hkz
  obtain ⟨c1, c2, c3, c4, c5⟩ := hcl
  refine va_get (Ts := jW) (D := D) (v := .int (Int32.ofInt (M h k))) hc.1 hc.2.1 hc.2.2.2.2.2.2.2.1 c2 hc.2.2.2.2.2.1 hc.2.2.2.2.2.2.2.2.1.2 hP h (jws_get hG) c1 k hk (hc.2.2.2.2.2.2.2.1 _ hw) (by rw [c5 k hk]; exact fun _ h9 => h9) (by rw [jfs_get hk]; simp [jfv, hr]) hd ?_
  exact kk D aC p e R s m args below meth c Φ hc he H locs cells slots ls ⟨hH, hl, hLn, hLo, jokM_int hM (k := h) hG (by show ci + 5 ≠ 1; omega) _, hSo.2⟩
theorem J_getR {h' : Nat} {ci n index k h : Nat} {rs : List (Option Nat)} {C : String} {T : u_T} (hcl : jCl ci C T n) (hd : decode mm.2.1 pc = .ok (.getfield index, 3)) (hw : Cond.fieldLink mm.1.cls index C (T k).2.1 (T k).2.2.1 ∈ jW) (hG : G[h]? = some (ci + 5, n, rs)) (hk : k < n) (hr : jisref (jfty ci k) = true) (hrs : rs[k]? = some (some h')) (kk : J l z X d mm a (pc + 3) L (jR h' :: S) (G, M) Q) : J l z X d mm a pc L (jR h :: S) (G, M) Q := by
  intro D aC p e R s m args below meth c Φ hc he H locs cells slots ls ha
  obtain ⟨hH, hl, hLn, hLo, hSo⟩ := id ha
  obtain ⟨hHs, hP, hS, hcl0, hsl0, hM⟩ := id hH
  obtain ⟨c1, c2, c3, c4, c5⟩ := hcl
  refine va_get (Ts := jW) (D := D) (v := .ref (z + h')) hc.1 hc.2.1 hc.2.2.2.2.2.2.2.1 c2 hc.2.2.2.2.2.1 hc.2.2.2.2.2.2.2.2.1.2 hP h (jws_get hG) c1 k hk (hc.2.2.2.2.2.2.2.1 _ hw) (by rw [c5 k hk]; exact fun _ h9 => h9) (by rw [jfs_get hk]; simp [jfv, hr, jrf, va_rf, List.getD_eq_getElem?_getD, hrs]) hd ?_
  exact kk D aC p e R s m args below meth c Φ hc he H locs cells slots ls ⟨hH, hl, hLn, hLo, trivial, hSo.2⟩
theorem J_putI {x : Int} {ci n index k h : Nat} {kz : Int} {rs : List (Option Nat)} {C : String} {T : u_T} (hcl : jCl ci C T n) (hd : decode mm.2.1 pc = .ok (.putfield index, 3)) (hw : Cond.fieldLink mm.1.cls index C (T k).2.1 (T k).2.2.1 ∈ jW) (hG : G[h]? = some (ci + 5, n, rs)) (hk : k < n) (hkz : (k : Int) = kz) (hty : jfty ci k = .int) (hfin : (T k).2.2.2 = false) (kk : J l z X d mm a (pc + 3) L S (G, jupd M h kz x) Q) : J l z X d mm a pc L (jI x :: jR h :: S) (G, M) Q := by
  intro D aC p e R s m args below meth c Φ hc he H locs cells slots ls ha
  obtain ⟨hH, hl, hLn, hLo, hSo⟩ := id ha
  obtain ⟨hHs, hP, hS, hcl0, hsl0, hM⟩ := id hH
  subst hkz
  obtain ⟨c1, c2, c3, c4, c5⟩ := hcl
  have hap := va_apart (own := mm.1.cls) (Ts := jW) hc.2.2.2.2.2.2.2.1 c2 (jfty ci) c3 c4 hc.2.2.2.2.2.2.2.2.1.2 c1
  obtain ⟨r0, h1, cell, q1, q2, q3, q4⟩ := hP h _ (jws_get hG)
  have hr0 : r0 = (C, T, n) := Option.some.inj (h1.symm.trans c1)
  subst hr0
  obtain ⟨hSl, hfc, kC, hkC, hkind⟩ := (hc.2.2.2.2.2.2.2.2.1.2).1 ci _ c1
  obtain ⟨cf, kf, fi, f, hi, hsl⟩ := hSl k hk
  have hlay := hc.2.2.2.2.2.2.2.1 _ (c2 _ (u_in_lay hk))
  unfold u_lay at hlay
  rw [if_neg (by rw [hfin]; decide)] at hlay
  have hr : jisref (jfty ci k) = false := by rw [hty]; rfl
  have hst := (u_facts hfc hkC (u_lays (ws := jW) (args := args) hc.2.2.2.2.2.2.2.1 c2 hk) hi).1
  have hi' : s.fieldFound? C (T k).2.1 (T k).2.2.1 = some (cf, kf, fi, f) := by rw [← hi]; show _ = s.fieldFound? (T k).1 _ _; rw [c5 k hk]
  have h6 := u_store (v := .int (Int32.ofInt x)) hfc hkC hkind hlay hi ((c3 k hk).trans (congrArg some hty)) (by rfl) (by rfl)
  refine W.putK hc.1 hc.2.1 (f := f) ⟨hc.2.2.2.2.2.1, (hc.2.2.2.2.2.2.2.1 _ hw), ⟨_, _, _, hi'⟩, hst⟩ (by rw [q2]; exact h6) q1 q3 (by rw [hsl]; exact k2_hasslot (q4 k hk)) rfl rfl hd fun H1 e1 e2 e3 => ?_
  rw [hsl] at e1 ⊢
  have hE : va_at D vwCl (z + h, Sum.inr (ci, ((List.range n).map (jfv z ci rs (M h))).set k (.int (Int32.ofInt x)))) H1 := ⟨_, c1, t_OB.to (V := updV (vp_V ((List.range n).map (jfv z ci rs (M h)))) k (.int (Int32.ofInt x))) ⟨_, e1, q2, q3, t_set q4 hap hk _⟩ (fun j _ => vp_updV_set (by simpa using hk) _ j)⟩
  have hH1 := jHp_put (i := D.2 ci k) (G' := G) (M' := jupd M h k x) (kd' := (ci + 5, n, rs)) hH hG hE e2 e3 rfl (jget0 hG) (by
    show Sum.inr (ci, _) = Sum.inr (ci, _)
    rw [jfs_set hk (rs' := rs) (f' := jupd M h k x h) (by simp [jfv, hr, jupd]) (fun j hj => by simp [jfv, jupd, show ¬ (j : Int) = (k : Int) by omega])]) (fun j hj => ⟨rfl, jupd_ne M _ _ hj⟩) (jokM_upd hM hG ⟨fun q => absurd q (by show ci + 5 ≠ 1; omega), fun _ => hSo.1⟩)
  exact kk D aC p e R s m args below meth c Φ hc he H1 _ cells slots ls ⟨hH1, hl, hLn, hLo, hSo.2.2⟩
theorem J_putZ {x : Int} {ci n index k h : Nat} {kz : Int} {rs : List (Option Nat)} {C : String} {T : u_T} (hcl : jCl ci C T n) (hd : decode mm.2.1 pc = .ok (.putfield index, 3)) (hw : Cond.fieldLink mm.1.cls index C (T k).2.1 (T k).2.2.1 ∈ jW) (hG : G[h]? = some (ci + 5, n, rs)) (hk : k < n) (hkz : (k : Int) = kz) (hty : jfty ci k = .boolean) (hfin : (T k).2.2.2 = false) (hx : x = 0 ∨ x = 1) (kk : J l z X d mm a (pc + 3) L S (G, jupd M h kz x) Q) : J l z X d mm a pc L (jI x :: jR h :: S) (G, M) Q := by
  intro D aC p e R s m args below meth c Φ hc he H locs cells slots ls ha
  obtain ⟨hH, hl, hLn, hLo, hSo⟩ := id ha
  obtain ⟨hHs, hP, hS, hcl0, hsl0, hM⟩ := id hH
  subst hkz
  obtain ⟨c1, c2, c3, c4, c5⟩ := hcl
  have hap := va_apart (own := mm.1.cls) (Ts := jW) hc.2.2.2.2.2.2.2.1 c2 (jfty ci) c3 c4 hc.2.2.2.2.2.2.2.2.1.2 c1
  obtain ⟨r0, h1, cell, q1, q2, q3, q4⟩ := hP h _ (jws_get hG)
  have hr0 : r0 = (C, T, n) := Option.some.inj (h1.symm.trans c1)
  subst hr0
  obtain ⟨hSl, hfc, kC, hkC, hkind⟩ := (hc.2.2.2.2.2.2.2.2.1.2).1 ci _ c1
  obtain ⟨cf, kf, fi, f, hi, hsl⟩ := hSl k hk
  have hlay := hc.2.2.2.2.2.2.2.1 _ (c2 _ (u_in_lay hk))
  unfold u_lay at hlay
  rw [if_neg (by rw [hfin]; decide)] at hlay
  have hr : jisref (jfty ci k) = false := by rw [hty]; rfl
  have hst := (u_facts hfc hkC (u_lays (ws := jW) (args := args) hc.2.2.2.2.2.2.2.1 c2 hk) hi).1
  have hi' : s.fieldFound? C (T k).2.1 (T k).2.2.1 = some (cf, kf, fi, f) := by rw [← hi]; show _ = s.fieldFound? (T k).1 _ _; rw [c5 k hk]
  have h6 := u_store (v := .int (Int32.ofInt x)) hfc hkC hkind hlay hi ((c3 k hk).trans (congrArg some hty)) (by rcases hx with rfl | rfl <;> decide +kernel) (by rcases hx with rfl | rfl <;> decide +kernel)
  refine W.putK hc.1 hc.2.1 (f := f) ⟨hc.2.2.2.2.2.1, (hc.2.2.2.2.2.2.2.1 _ hw), ⟨_, _, _, hi'⟩, hst⟩ (by rw [q2]; exact h6) q1 q3 (by rw [hsl]; exact k2_hasslot (q4 k hk)) rfl rfl hd fun H1 e1 e2 e3 => ?_
  rw [hsl] at e1 ⊢
  have hE : va_at D vwCl (z + h, Sum.inr (ci, ((List.range n).map (jfv z ci rs (M h))).set k (.int (Int32.ofInt x)))) H1 := ⟨_, c1, t_OB.to (V := updV (vp_V ((List.range n).map (jfv z ci rs (M h)))) k (.int (Int32.ofInt x))) ⟨_, e1, q2, q3, t_set q4 hap hk _⟩ (fun j _ => vp_updV_set (by simpa using hk) _ j)⟩
  have hH1 := jHp_put (i := D.2 ci k) (G' := G) (M' := jupd M h k x) (kd' := (ci + 5, n, rs)) hH hG hE e2 e3 rfl (jget0 hG) (by
    show Sum.inr (ci, _) = Sum.inr (ci, _)
    rw [jfs_set hk (rs' := rs) (f' := jupd M h k x h) (by simp [jfv, hr, jupd]) (fun j hj => by simp [jfv, jupd, show ¬ (j : Int) = (k : Int) by omega])]) (fun j hj => ⟨rfl, jupd_ne M _ _ hj⟩) (jokM_upd hM hG ⟨fun q => absurd q (by show ci + 5 ≠ 1; omega), fun _ => hSo.1⟩)
  exact kk D aC p e R s m args below meth c Φ hc he H1 _ cells slots ls ⟨hH1, hl, hLn, hLo, hSo.2.2⟩
theorem J_putF {h' : Nat} {ci n index k h : Nat} {rs : List (Option Nat)} {C : String} {T : u_T} (hcl : jCl ci C T n) (hd : decode mm.2.1 pc = .ok (.putfield index, 3)) (hw : Cond.fieldLink mm.1.cls index C (T k).2.1 (T k).2.2.1 ∈ jW) (hG : G[h]? = some (ci + 5, n, rs)) (hk : k < n) (hrl : k < rs.length) (hty : jisref (jfty ci k) = true) (hfin : (T k).2.2.2 = true) (hini : mm.1.name = "<init>") (hown : mm.1.cls = C) (kk : J l z X d mm a (pc + 3) L S (G.set h (ci + 5, n, rs.set k (some h')), M) Q) : J l z X d mm a pc L (jR h' :: jR h :: S) (G, M) Q := by
  intro D aC p e R s m args below meth c Φ hc he H locs cells slots ls ha
  obtain ⟨hH, hl, hLn, hLo, hSo⟩ := id ha
  obtain ⟨hHs, hP, hS, hcl0, hsl0, hM⟩ := id hH
  obtain ⟨c1, c2, c3, c4, c5⟩ := hcl
  have hap := va_apart (own := mm.1.cls) (Ts := jW) hc.2.2.2.2.2.2.2.1 c2 (jfty ci) c3 c4 hc.2.2.2.2.2.2.2.2.1.2 c1
  obtain ⟨r0, h1, cell, q1, q2, q3, q4⟩ := hP h _ (jws_get hG)
  have hr0 : r0 = (C, T, n) := Option.some.inj (h1.symm.trans c1)
  subst hr0
  obtain ⟨hSl, hfc, kC, hkC, hkind⟩ := (hc.2.2.2.2.2.2.2.2.1.2).1 ci _ c1
  obtain ⟨cf, kf, fi, f, hi, hsl⟩ := hSl k hk
  have hlay := hc.2.2.2.2.2.2.2.1 _ (c2 _ (u_in_lay hk))
  unfold u_lay at hlay
  rw [if_pos hfin] at hlay
  have hst := (u_facts hfc hkC (u_lays (ws := jW) (args := args) hc.2.2.2.2.2.2.2.1 c2 hk) hi).1
  have hi' : s.fieldFound? C (T k).2.1 (T k).2.2.1 = some (cf, kf, fi, f) := by rw [← hi]; show _ = s.fieldFound? (T k).1 _ _; rw [c5 k hk]
  have hcf : m.cls = cf := by
    obtain ⟨_, _, c', _, _, _, -, -, hf', -, -, -, hown2, -⟩ := Cond.laysFinal_spec hlay
    have e1 : c' = cf := by have := hi.symm.trans hf'; simp at this; exact this.1.symm
    rw [c5 k hk, ← hown] at hown2
    rw [← e1]; exact Option.some.inj (hc.2.2.2.2.2.1.symm.trans hown2)
  have hfit : narrow (jfty ci k) (.ref (z + h')) = .ref (z + h') ∧ fits (jfty ci k) (.ref (z + h')) = true := by
    revert hty
    generalize jfty ci k = ty
    intro hty
    cases ty <;> first | exact ⟨rfl, rfl⟩ | (simp [jisref] at hty)
  have h6 := u_fits (v := .ref (z + h')) hfc hkC hkind (Or.inr hlay) hi (c3 k hk) hfit.1 hfit.2
  refine W.putFinK hc.1 hc.2.1 hc.2.2.2.2.2.1 (hc.2.2.2.2.2.2.2.1 _ hw) hi' hst hcf (hc.2.2.2.2.2.2.1.trans hini) (by rw [q2]; exact h6) q1 q3 (by rw [hsl]; exact k2_hasslot (q4 k hk)) rfl rfl hd fun H1 e1 e2 e3 => ?_
  rw [hsl] at e1 ⊢
  have hE : va_at D vwCl (z + h, Sum.inr (ci, ((List.range n).map (jfv z ci rs (M h))).set k (.ref (z + h')))) H1 := ⟨_, c1, t_OB.to (V := updV (vp_V ((List.range n).map (jfv z ci rs (M h)))) k (.ref (z + h'))) ⟨_, e1, q2, q3, t_set q4 hap hk _⟩ (fun j _ => vp_updV_set (by simpa using hk) _ j)⟩
  have hl0 := (List.getElem?_eq_some_iff.mp hG).1
  have hG1 : (G.set h (ci + 5, n, rs.set k (some h'))).getD h (0, 0, []) = (ci + 5, n, rs.set k (some h')) := jget0 (by rw [List.getElem?_set_self hl0])
  have hG2 : ∀ j, j ≠ h → (G.set h (ci + 5, n, rs.set k (some h'))).getD j (0, 0, []) = G.getD j (0, 0, []) := fun j hj => by rw [List.getD_eq_getElem?_getD, List.getD_eq_getElem?_getD, List.getElem?_set_ne (Ne.symm hj)]
  have hH1 := jHp_put (i := D.2 ci k) (G' := G.set h (ci + 5, n, rs.set k (some h'))) (M' := M) (kd' := (ci + 5, n, rs.set k (some h'))) hH hG hE e2 e3 (List.length_set) hG1 (by
    show Sum.inr (ci, _) = Sum.inr (ci, _)
    rw [jfs_set hk (rs' := rs.set k (some h')) (f' := M h) (by simp [jfv, hty, jrf, va_rf, List.getD_eq_getElem?_getD, hrl]) (fun j hj => by simp [jfv, jrf, List.getD_eq_getElem?_getD, List.getElem?_set_ne (Ne.symm hj)])]) (fun j hj => ⟨hG2 j hj, rfl⟩) (by
    intro k' j
    have h9 : jlen (G.set h (ci + 5, n, rs.set k (some h'))) k' = jlen G k' := by
      unfold jlen
      by_cases hkh : k' = h
      · subst hkh; rw [hG1, jget0 hG]
      · rw [hG2 k' hkh]
    dsimp only
    rw [h9, List.length_set]
    exact hM k' j)
  exact kk D aC p e R s m args below meth c Φ hc he H1 _ cells slots ls ⟨hH1, hl, hLn, hLo, hSo.2.2⟩
theorem J_getIN {ci n index k h : Nat} {kz : Int} {rs : List (Option Nat)} {C : String} {T : u_T} (hcl : jCl ci C T n) (hd : decode mm.2.1 pc = .ok (.getfield index, 3)) {host : String} (hw : Cond.fieldLinkNest mm.1.cls index C (T k).2.1 (T k).2.2.1 host ∈ jNW) (hG : G[h]? = some (ci + 5, n, rs)) (hk : k < n) (hkz : (k : Int) = kz) (hr : jisref (jfty ci k) = false) (kk : J l z X d mm a (pc + 3) L (jI (M h kz) :: S) (G, M) Q) : J l z X d mm a pc L (jR h :: S) (G, M) Q := by
  intro D aC p e R s m args below meth c Φ hc he H locs cells slots ls ha
  obtain ⟨hH, hl, hLn, hLo, hSo⟩ := id ha
  obtain ⟨hHs, hP, hS, hcl0, hsl0, hM⟩ := id hH
  subst hkz
  obtain ⟨c1, c2, c3, c4, c5⟩ := hcl
  refine va_getN (Ts := jW) (D := D) (v := .int (Int32.ofInt (M h k))) hc.1 hc.2.1 hc.2.2.2.2.2.2.2.1 c2 hc.2.2.2.2.2.1 hc.2.2.2.2.2.2.2.2.1.2 hP h (jws_get hG) c1 k hk (va_Nw.use rfl (hc.2.2.2.2.2.2.2.2.1.1 _ hw)) (by rw [c5 k hk]; exact fun _ h9 => h9) (by rw [jfs_get hk]; simp [jfv, hr]) hd ?_
  exact kk D aC p e R s m args below meth c Φ hc he H locs cells slots ls ⟨hH, hl, hLn, hLo, jokM_int hM (k := h) hG (by show ci + 5 ≠ 1; omega) _, hSo.2⟩
theorem J_getRN {h' : Nat} {ci n index k h : Nat} {rs : List (Option Nat)} {C : String} {T : u_T} (hcl : jCl ci C T n) (hd : decode mm.2.1 pc = .ok (.getfield index, 3)) {host : String} (hw : Cond.fieldLinkNest mm.1.cls index C (T k).2.1 (T k).2.2.1 host ∈ jNW) (hG : G[h]? = some (ci + 5, n, rs)) (hk : k < n) (hr : jisref (jfty ci k) = true) (hrs : rs[k]? = some (some h')) (kk : J l z X d mm a (pc + 3) L (jR h' :: S) (G, M) Q) : J l z X d mm a pc L (jR h :: S) (G, M) Q := by
  intro D aC p e R s m args below meth c Φ hc he H locs cells slots ls ha
  obtain ⟨hH, hl, hLn, hLo, hSo⟩ := id ha
  obtain ⟨hHs, hP, hS, hcl0, hsl0, hM⟩ := id hH
  obtain ⟨c1, c2, c3, c4, c5⟩ := hcl
  refine va_getN (Ts := jW) (D := D) (v := .ref (z + h')) hc.1 hc.2.1 hc.2.2.2.2.2.2.2.1 c2 hc.2.2.2.2.2.1 hc.2.2.2.2.2.2.2.2.1.2 hP h (jws_get hG) c1 k hk (va_Nw.use rfl (hc.2.2.2.2.2.2.2.2.1.1 _ hw)) (by rw [c5 k hk]; exact fun _ h9 => h9) (by rw [jfs_get hk]; simp [jfv, hr, jrf, va_rf, List.getD_eq_getElem?_getD, hrs]) hd ?_
  exact kk D aC p e R s m args below meth c Φ hc he H locs cells slots ls ⟨hH, hl, hLn, hLo, trivial, hSo.2⟩
theorem J_putIN {x : Int} {ci n index k h : Nat} {kz : Int} {rs : List (Option Nat)} {C : String} {T : u_T} (hcl : jCl ci C T n) (hd : decode mm.2.1 pc = .ok (.putfield index, 3)) {host : String} (hw : Cond.fieldLinkNest mm.1.cls index C (T k).2.1 (T k).2.2.1 host ∈ jNW) (hG : G[h]? = some (ci + 5, n, rs)) (hk : k < n) (hkz : (k : Int) = kz) (hty : jfty ci k = .int) (hfin : (T k).2.2.2 = false) (kk : J l z X d mm a (pc + 3) L S (G, jupd M h kz x) Q) : J l z X d mm a pc L (jI x :: jR h :: S) (G, M) Q := by
  intro D aC p e R s m args below meth c Φ hc he H locs cells slots ls ha
  obtain ⟨hH, hl, hLn, hLo, hSo⟩ := id ha
  obtain ⟨hHs, hP, hS, hcl0, hsl0, hM⟩ := id hH
  subst hkz
  obtain ⟨c1, c2, c3, c4, c5⟩ := hcl
  have hap := va_apart (own := mm.1.cls) (Ts := jW) hc.2.2.2.2.2.2.2.1 c2 (jfty ci) c3 c4 hc.2.2.2.2.2.2.2.2.1.2 c1
  obtain ⟨r0, h1, cell, q1, q2, q3, q4⟩ := hP h _ (jws_get hG)
  have hr0 : r0 = (C, T, n) := Option.some.inj (h1.symm.trans c1)
  subst hr0
  obtain ⟨hSl, hfc, kC, hkC, hkind⟩ := (hc.2.2.2.2.2.2.2.2.1.2).1 ci _ c1
  obtain ⟨cf, kf, fi, f, hi, hsl⟩ := hSl k hk
  have hlay := hc.2.2.2.2.2.2.2.1 _ (c2 _ (u_in_lay hk))
  unfold u_lay at hlay
  rw [if_neg (by rw [hfin]; decide)] at hlay
  have hr : jisref (jfty ci k) = false := by rw [hty]; rfl
  have hst := (u_facts hfc hkC (u_lays (ws := jW) (args := args) hc.2.2.2.2.2.2.2.1 c2 hk) hi).1
  have hi' : s.fieldFound? C (T k).2.1 (T k).2.2.1 = some (cf, kf, fi, f) := by rw [← hi]; show _ = s.fieldFound? (T k).1 _ _; rw [c5 k hk]
  have h6 := u_store (v := .int (Int32.ofInt x)) hfc hkC hkind hlay hi ((c3 k hk).trans (congrArg some hty)) (by rfl) (by rfl)
  refine va_WputK hc.1 hc.2.1 (f := f) hc.2.2.2.2.2.1 (va_Nw.use rfl (hc.2.2.2.2.2.2.2.2.1.1 _ hw)) hi' hst (by rw [q2]; exact h6) q1 q3 (by rw [hsl]; exact k2_hasslot (q4 k hk)) rfl rfl hd fun H1 e1 e2 e3 => ?_
  rw [hsl] at e1 ⊢
  have hE : va_at D vwCl (z + h, Sum.inr (ci, ((List.range n).map (jfv z ci rs (M h))).set k (.int (Int32.ofInt x)))) H1 := ⟨_, c1, t_OB.to (V := updV (vp_V ((List.range n).map (jfv z ci rs (M h)))) k (.int (Int32.ofInt x))) ⟨_, e1, q2, q3, t_set q4 hap hk _⟩ (fun j _ => vp_updV_set (by simpa using hk) _ j)⟩
  have hH1 := jHp_put (i := D.2 ci k) (G' := G) (M' := jupd M h k x) (kd' := (ci + 5, n, rs)) hH hG hE e2 e3 rfl (jget0 hG) (by
    show Sum.inr (ci, _) = Sum.inr (ci, _)
    rw [jfs_set hk (rs' := rs) (f' := jupd M h k x h) (by simp [jfv, hr, jupd]) (fun j hj => by simp [jfv, jupd, show ¬ (j : Int) = (k : Int) by omega])]) (fun j hj => ⟨rfl, jupd_ne M _ _ hj⟩) (jokM_upd hM hG ⟨fun q => absurd q (by show ci + 5 ≠ 1; omega), fun _ => hSo.1⟩)
  exact kk D aC p e R s m args below meth c Φ hc he H1 _ cells slots ls ⟨hH1, hl, hLn, hLo, hSo.2.2⟩
theorem J_putZN {x : Int} {ci n index k h : Nat} {kz : Int} {rs : List (Option Nat)} {C : String} {T : u_T} (hcl : jCl ci C T n) (hd : decode mm.2.1 pc = .ok (.putfield index, 3)) {host : String} (hw : Cond.fieldLinkNest mm.1.cls index C (T k).2.1 (T k).2.2.1 host ∈ jNW) (hG : G[h]? = some (ci + 5, n, rs)) (hk : k < n) (hkz : (k : Int) = kz) (hty : jfty ci k = .boolean) (hfin : (T k).2.2.2 = false) (hx : x = 0 ∨ x = 1) (kk : J l z X d mm a (pc + 3) L S (G, jupd M h kz x) Q) : J l z X d mm a pc L (jI x :: jR h :: S) (G, M) Q := by
  intro D aC p e R s m args below meth c Φ hc he H locs cells slots ls ha
  obtain ⟨hH, hl, hLn, hLo, hSo⟩ := id ha
  obtain ⟨hHs, hP, hS, hcl0, hsl0, hM⟩ := id hH
  subst hkz
  obtain ⟨c1, c2, c3, c4, c5⟩ := hcl
  have hap := va_apart (own := mm.1.cls) (Ts := jW) hc.2.2.2.2.2.2.2.1 c2 (jfty ci) c3 c4 hc.2.2.2.2.2.2.2.2.1.2 c1
  obtain ⟨r0, h1, cell, q1, q2, q3, q4⟩ := hP h _ (jws_get hG)
  have hr0 : r0 = (C, T, n) := Option.some.inj (h1.symm.trans c1)
  subst hr0
  obtain ⟨hSl, hfc, kC, hkC, hkind⟩ := (hc.2.2.2.2.2.2.2.2.1.2).1 ci _ c1
  obtain ⟨cf, kf, fi, f, hi, hsl⟩ := hSl k hk
  have hlay := hc.2.2.2.2.2.2.2.1 _ (c2 _ (u_in_lay hk))
  unfold u_lay at hlay
  rw [if_neg (by rw [hfin]; decide)] at hlay
  have hr : jisref (jfty ci k) = false := by rw [hty]; rfl
  have hst := (u_facts hfc hkC (u_lays (ws := jW) (args := args) hc.2.2.2.2.2.2.2.1 c2 hk) hi).1
  have hi' : s.fieldFound? C (T k).2.1 (T k).2.2.1 = some (cf, kf, fi, f) := by rw [← hi]; show _ = s.fieldFound? (T k).1 _ _; rw [c5 k hk]
  have h6 := u_store (v := .int (Int32.ofInt x)) hfc hkC hkind hlay hi ((c3 k hk).trans (congrArg some hty)) (by rcases hx with rfl | rfl <;> decide +kernel) (by rcases hx with rfl | rfl <;> decide +kernel)
  refine va_WputK hc.1 hc.2.1 (f := f) hc.2.2.2.2.2.1 (va_Nw.use rfl (hc.2.2.2.2.2.2.2.2.1.1 _ hw)) hi' hst (by rw [q2]; exact h6) q1 q3 (by rw [hsl]; exact k2_hasslot (q4 k hk)) rfl rfl hd fun H1 e1 e2 e3 => ?_
  rw [hsl] at e1 ⊢
  have hE : va_at D vwCl (z + h, Sum.inr (ci, ((List.range n).map (jfv z ci rs (M h))).set k (.int (Int32.ofInt x)))) H1 := ⟨_, c1, t_OB.to (V := updV (vp_V ((List.range n).map (jfv z ci rs (M h)))) k (.int (Int32.ofInt x))) ⟨_, e1, q2, q3, t_set q4 hap hk _⟩ (fun j _ => vp_updV_set (by simpa using hk) _ j)⟩
  have hH1 := jHp_put (i := D.2 ci k) (G' := G) (M' := jupd M h k x) (kd' := (ci + 5, n, rs)) hH hG hE e2 e3 rfl (jget0 hG) (by
    show Sum.inr (ci, _) = Sum.inr (ci, _)
    rw [jfs_set hk (rs' := rs) (f' := jupd M h k x h) (by simp [jfv, hr, jupd]) (fun j hj => by simp [jfv, jupd, show ¬ (j : Int) = (k : Int) by omega])]) (fun j hj => ⟨rfl, jupd_ne M _ _ hj⟩) (jokM_upd hM hG ⟨fun q => absurd q (by show ci + 5 ≠ 1; omega), fun _ => hSo.1⟩)
  exact kk D aC p e R s m args below meth c Φ hc he H1 _ cells slots ls ⟨hH1, hl, hLn, hLo, hSo.2.2⟩
theorem J_iald {n h : Nat} {i : Int} {rs : List (Option Nat)} (hd : decode mm.2.1 pc = .ok (.iaload, 1)) (hG : G[h]? = some (0, n, rs)) (h0 : 0 ≤ i) (h1 : i < n) (kk : J l z X d mm a (pc + 1) L (jI (M h i) :: S) (G, M) Q) : J l z X d mm a pc L (jI i :: jR h :: S) (G, M) Q := by
  intro D aC p e R s m args below meth c Φ hc he H locs cells slots ls ha
  obtain ⟨hH, hl, hLn, hLo, hSo⟩ := id ha
  obtain ⟨hHs, hP, hS, hcl0, hsl0, hM⟩ := id hH
  have hi : ((Int32.ofInt i).toNatClampNeg : Int) = i := by rw [j32_ix (n := n) h0 hSo.1]; exact Int.toNat_of_nonneg h0
  refine va_iald hc.1 hc.2.1 hc.2.2.2.2.2.2.2.2.1.2 hP h 0 (jws_get hG) rfl (j32_in h0 h1 hSo.1) hd ?_
  rw [hi]
  exact kk D aC p e R s m args below meth c Φ hc he H locs cells slots ls ⟨hH, hl, hLn, hLo, jokM_int hM (k := h) hG (show ¬ (0 : Nat) = 1 by decide) _, hSo.2.2⟩
theorem J_iast {n h : Nat} {i x : Int} {rs : List (Option Nat)} (hd : decode mm.2.1 pc = .ok (.iastore, 1)) (hG : G[h]? = some (0, n, rs)) (h0 : 0 ≤ i) (h1 : i < n) (kk : J l z X d mm a (pc + 1) L S (G, jupd M h i x) Q) : J l z X d mm a pc L (jI x :: jI i :: jR h :: S) (G, M) Q := by
  intro D aC p e R s m args below meth c Φ hc he H locs cells slots ls ha
  obtain ⟨hH, hl, hLn, hLo, hSo⟩ := id ha
  obtain ⟨hHs, hP, hS, hcl0, hsl0, hM⟩ := id hH
  have hi : ((Int32.ofInt i).toNatClampNeg : Int) = i := by rw [j32_ix (n := n) h0 hSo.2.1]; exact Int.toNat_of_nonneg h0
  have hin := j32_in h0 h1 hSo.2.1
  refine W.iast hc.1 hc.2.1 (hP h _ (jws_get hG)) (((hc.2.2.2.2.2.2.2.2.1.2).2 0 _ rfl).1 n (fun j => .int (Int32.ofInt (M h j)))) (fun q => by cases q) (by show ¬ (_ ∨ (arrV _ _ _).slots.size ≤ _); rw [arrV_size]; exact hin) rfl rfl hd fun H1 e1 e2 e3 => ?_
  have hE : va_at D vwCl (z + h, Sum.inl (aC 0, n, .inl (fun j => Int32.ofInt (jupd M h i x h j)))) H1 := by
    show H1[z + h]? = some (vp_cell _ _)
    rw [e1]
    show some (Cell.setSlot (arrV _ _ _) _ _) = _
    rw [vp_cell_i, arrV_store]
    congr 2
    funext q
    by_cases hq : q = (Int32.ofInt i).toNatClampNeg
    · subst hq
      simp [updV, jupd, hi]
    · have hq2 : ¬ (q : Int) = i := fun g => hq (by omega)
      simp [updV, jupd, hq, hq2]
  have hH1 := jHp_put (i := (Int32.ofInt i).toNatClampNeg) (G' := G) (M' := jupd M h i x) (kd' := (0, n, rs)) hH hG hE e2 e3 rfl (jget0 hG) rfl (fun j hj => ⟨rfl, jupd_ne M _ _ hj⟩) (jokM_upd hM hG ⟨fun q => absurd q (show ¬ (0 : Nat) = 1 by decide), fun _ => hSo.1⟩)
  exact kk D aC p e R s m args below meth c Φ hc he H1 _ cells slots ls ⟨hH1, hl, hLn, hLo, hSo.2.2.2⟩
theorem J_lald {n h : Nat} {i : Int} {rs : List (Option Nat)} (hd : decode mm.2.1 pc = .ok (.laload, 1)) (hG : G[h]? = some (1, n, rs)) (h0 : 0 ≤ i) (h1 : i < n) (kk : J l z X d mm a (pc + 1) L (jL (M h i) :: S) (G, M) Q) : J l z X d mm a pc L (jI i :: jR h :: S) (G, M) Q := by
  intro D aC p e R s m args below meth c Φ hc he H locs cells slots ls ha
  obtain ⟨hH, hl, hLn, hLo, hSo⟩ := id ha
  obtain ⟨hHs, hP, hS, hcl0, hsl0, hM⟩ := id hH
  have hi : ((Int32.ofInt i).toNatClampNeg : Int) = i := by rw [j32_ix (n := n) h0 hSo.1]; exact Int.toNat_of_nonneg h0
  refine va_lald hc.1 hc.2.1 hc.2.2.2.2.2.2.2.2.1.2 hP h 1 (jws_get hG) rfl (j32_in h0 h1 hSo.1) hd ?_
  rw [hi]
  exact kk D aC p e R s m args below meth c Φ hc he H locs cells slots ls ⟨hH, hl, hLn, hLo, jokM_long hM (k := h) hG (rfl) _, hSo.2.2⟩
theorem J_last {n h : Nat} {i x : Int} {rs : List (Option Nat)} (hd : decode mm.2.1 pc = .ok (.lastore, 1)) (hG : G[h]? = some (1, n, rs)) (h0 : 0 ≤ i) (h1 : i < n) (kk : J l z X d mm a (pc + 1) L S (G, jupd M h i x) Q) : J l z X d mm a pc L (jL x :: jI i :: jR h :: S) (G, M) Q := by
  intro D aC p e R s m args below meth c Φ hc he H locs cells slots ls ha
  obtain ⟨hH, hl, hLn, hLo, hSo⟩ := id ha
  obtain ⟨hHs, hP, hS, hcl0, hsl0, hM⟩ := id hH
  have hi : ((Int32.ofInt i).toNatClampNeg : Int) = i := by rw [j32_ix (n := n) h0 hSo.2.1]; exact Int.toNat_of_nonneg h0
  have hin := j32_in h0 h1 hSo.2.1
  refine W.last hc.1 hc.2.1 (hP h _ (jws_get hG)) (((hc.2.2.2.2.2.2.2.2.1.2).2 1 _ rfl).1 n (fun j => .long (Int64.ofInt (M h j)))) (fun q => by cases q) (by show ¬ (_ ∨ (arrV _ _ _).slots.size ≤ _); rw [arrV_size]; exact hin) rfl rfl hd fun H1 e1 e2 e3 => ?_
  have hE : va_at D vwCl (z + h, Sum.inl (aC 1, n, .inr (.inl (fun j => Int64.ofInt (jupd M h i x h j))))) H1 := by
    show H1[z + h]? = some (vp_cell _ _)
    rw [e1]
    show some (Cell.setSlot (arrV _ _ _) _ _) = _
    rw [vp_cell_l, arrV_store]
    congr 2
    funext q
    by_cases hq : q = (Int32.ofInt i).toNatClampNeg
    · subst hq
      simp [updV, jupd, hi]
    · have hq2 : ¬ (q : Int) = i := fun g => hq (by omega)
      simp [updV, jupd, hq, hq2]
  have hH1 := jHp_put (i := (Int32.ofInt i).toNatClampNeg) (G' := G) (M' := jupd M h i x) (kd' := (1, n, rs)) hH hG hE e2 e3 rfl (jget0 hG) rfl (fun j hj => ⟨rfl, jupd_ne M _ _ hj⟩) (jokM_upd hM hG ⟨fun _ => hSo.1, fun q => absurd rfl q⟩)
  exact kk D aC p e R s m args below meth c Φ hc he H1 _ cells slots ls ⟨hH1, hl, hLn, hLo, hSo.2.2.2⟩
theorem J_zald {n h : Nat} {i : Int} {rs : List (Option Nat)} (hd : decode mm.2.1 pc = .ok (.baload, 1)) (hG : G[h]? = some (2, n, rs)) (h0 : 0 ≤ i) (h1 : i < n) (kk : J l z X d mm a (pc + 1) L (jI (M h i) :: S) (G, M) Q) : J l z X d mm a pc L (jI i :: jR h :: S) (G, M) Q := by
  intro D aC p e R s m args below meth c Φ hc he H locs cells slots ls ha
  obtain ⟨hH, hl, hLn, hLo, hSo⟩ := id ha
  obtain ⟨hHs, hP, hS, hcl0, hsl0, hM⟩ := id hH
  have hi : ((Int32.ofInt i).toNatClampNeg : Int) = i := by rw [j32_ix (n := n) h0 hSo.1]; exact Int.toNat_of_nonneg h0
  refine va_zald hc.1 hc.2.1 hc.2.2.2.2.2.2.2.2.1.2 hP h 2 (jws_get hG) rfl (j32_in h0 h1 hSo.1) hd ?_
  rw [hi]
  exact kk D aC p e R s m args below meth c Φ hc he H locs cells slots ls ⟨hH, hl, hLn, hLo, jokM_int hM (k := h) hG (show ¬ (2 : Nat) = 1 by decide) _, hSo.2.2⟩
theorem J_zast {n h : Nat} {i x : Int} {rs : List (Option Nat)} (hd : decode mm.2.1 pc = .ok (.bastore, 1)) (hG : G[h]? = some (2, n, rs)) (h0 : 0 ≤ i) (h1 : i < n) (hx : x = 0 ∨ x = 1) (kk : J l z X d mm a (pc + 1) L S (G, jupd M h i x) Q) : J l z X d mm a pc L (jI x :: jI i :: jR h :: S) (G, M) Q := by
  intro D aC p e R s m args below meth c Φ hc he H locs cells slots ls ha
  obtain ⟨hH, hl, hLn, hLo, hSo⟩ := id ha
  obtain ⟨hHs, hP, hS, hcl0, hsl0, hM⟩ := id hH
  have hi : ((Int32.ofInt i).toNatClampNeg : Int) = i := by rw [j32_ix (n := n) h0 hSo.2.1]; exact Int.toNat_of_nonneg h0
  have hin := j32_in h0 h1 hSo.2.1
  refine W.zast hc.1 hc.2.1 (hP h _ (jws_get hG)) (((hc.2.2.2.2.2.2.2.2.1.2).2 2 _ rfl).1 n (fun j => .int (Int32.ofInt (M h j)))) (fun q => by cases q) (by show ¬ (_ ∨ (arrV _ _ _).slots.size ≤ _); rw [arrV_size]; exact hin) rfl rfl hd fun H1 e1 e2 e3 => ?_
  have hE : va_at D vwCl (z + h, Sum.inl (aC 2, n, .inl (fun j => Int32.ofInt (jupd M h i x h j)))) H1 := by
    show H1[z + h]? = some (vp_cell _ _)
    rw [show narrow .boolean (.int (Int32.ofInt x)) = .int (Int32.ofInt x) by rcases hx with rfl | rfl <;> decide +kernel] at e1
    rw [e1]
    show some (Cell.setSlot (arrV _ _ _) _ _) = _
    rw [vp_cell_i, arrV_store]
    congr 2
    funext q
    by_cases hq : q = (Int32.ofInt i).toNatClampNeg
    · subst hq
      simp [updV, jupd, hi]
    · have hq2 : ¬ (q : Int) = i := fun g => hq (by omega)
      simp [updV, jupd, hq, hq2]
  have hH1 := jHp_put (i := (Int32.ofInt i).toNatClampNeg) (G' := G) (M' := jupd M h i x) (kd' := (2, n, rs)) hH hG hE e2 e3 rfl (jget0 hG) rfl (fun j hj => ⟨rfl, jupd_ne M _ _ hj⟩) (jokM_upd hM hG ⟨fun q => absurd q (show ¬ (2 : Nat) = 1 by decide), fun _ => hSo.1⟩)
  exact kk D aC p e R s m args below meth c Φ hc he H1 _ cells slots ls ⟨hH1, hl, hLn, hLo, hSo.2.2.2⟩
theorem J_aald3 {n h h' : Nat} {i : Int} {rs : List (Option Nat)} (hd : decode mm.2.1 pc = .ok (.aaload, 1)) (hG : G[h]? = some (3, n, rs)) (h0 : 0 ≤ i) (h1 : i < n) (hrs : rs[i.toNat]? = some (some h')) (kk : J l z X d mm a (pc + 1) L (jR h' :: S) (G, M) Q) : J l z X d mm a pc L (jI i :: jR h :: S) (G, M) Q := by
  intro D aC p e R s m args below meth c Φ hc he H locs cells slots ls ha
  obtain ⟨hH, hl, hLn, hLo, hSo⟩ := id ha
  obtain ⟨hHs, hP, hS, hcl0, hsl0, hM⟩ := id hH
  have hi : (Int32.ofInt i).toNatClampNeg = i.toNat := j32_ix (n := n) h0 hSo.1
  have hin := j32_in h0 h1 hSo.1
  have hlt : (Int32.ofInt i).toNatClampNeg < n := Nat.not_le.mp fun q => hin (Or.inr q)
  refine W.aald (v := .ref (z + h')) (ty := (.array .int)) hc.1 hc.2.1 (hP h _ (jws_get hG)) (((hc.2.2.2.2.2.2.2.2.1.2).2 3 _ rfl).1 n (fun j => va_rf (jrf z rs j))) rfl (fun q => by cases q) (by show ¬ (_ ∨ (arrV _ _ _).slots.size ≤ _); rw [arrV_size]; exact hin) (by
    show (arrV _ _ _).slots[_]? = _
    rw [arrV_read _ _ hlt, hi]
    simp [jrf, va_rf, List.getD_eq_getElem?_getD, hrs]) rfl rfl hd ?_
  exact kk D aC p e R s m args below meth c Φ hc he H locs cells slots ls ⟨hH, hl, hLn, hLo, trivial, hSo.2.2⟩
theorem J_aald4 {n h h' : Nat} {i : Int} {rs : List (Option Nat)} (hd : decode mm.2.1 pc = .ok (.aaload, 1)) (hG : G[h]? = some (4, n, rs)) (h0 : 0 ≤ i) (h1 : i < n) (hrs : rs[i.toNat]? = some (some h')) (kk : J l z X d mm a (pc + 1) L (jR h' :: S) (G, M) Q) : J l z X d mm a pc L (jI i :: jR h :: S) (G, M) Q := by
  intro D aC p e R s m args below meth c Φ hc he H locs cells slots ls ha
  obtain ⟨hH, hl, hLn, hLo, hSo⟩ := id ha
  obtain ⟨hHs, hP, hS, hcl0, hsl0, hM⟩ := id hH
  have hi : (Int32.ofInt i).toNatClampNeg = i.toNat := j32_ix (n := n) h0 hSo.1
  have hin := j32_in h0 h1 hSo.1
  have hlt : (Int32.ofInt i).toNatClampNeg < n := Nat.not_le.mp fun q => hin (Or.inr q)
  refine W.aald (v := .ref (z + h')) (ty := (.object RX2)) hc.1 hc.2.1 (hP h _ (jws_get hG)) (((hc.2.2.2.2.2.2.2.2.1.2).2 4 _ rfl).1 n (fun j => va_rf (jrf z rs j))) rfl (fun q => by cases q) (by show ¬ (_ ∨ (arrV _ _ _).slots.size ≤ _); rw [arrV_size]; exact hin) (by
    show (arrV _ _ _).slots[_]? = _
    rw [arrV_read _ _ hlt, hi]
    simp [jrf, va_rf, List.getD_eq_getElem?_getD, hrs]) rfl rfl hd ?_
  exact kk D aC p e R s m args below meth c Φ hc he H locs cells slots ls ⟨hH, hl, hLn, hLo, trivial, hSo.2.2⟩
theorem J_alen0 {n h : Nat} {rs : List (Option Nat)} (hd : decode mm.2.1 pc = .ok (.arraylength, 1)) (hG : G[h]? = some (0, n, rs)) (hn : n < 2147483648) (kk : J l z X d mm a (pc + 1) L (jI n :: S) (G, M) Q) : J l z X d mm a pc L (jR h :: S) (G, M) Q := by
  intro D aC p e R s m args below meth c Φ hc he H locs cells slots ls ha
  obtain ⟨hH, hl, hLn, hLo, hSo⟩ := id ha
  obtain ⟨hHs, hP, hS, hcl0, hsl0, hM⟩ := id hH
  refine va_alen (v := Int32.ofInt n) hc.1 hc.2.1 hc.2.2.2.2.2.2.2.2.1.2 hP h 0 (jws_get hG) rfl (by show Int32.ofNat n = _; rfl) hd ?_
  exact kk D aC p e R s m args below meth c Φ hc he H locs cells slots ls ⟨hH, hl, hLn, hLo, ⟨by omega, by omega⟩, hSo.2⟩
theorem J_alen1 {n h : Nat} {rs : List (Option Nat)} (hd : decode mm.2.1 pc = .ok (.arraylength, 1)) (hG : G[h]? = some (1, n, rs)) (hn : n < 2147483648) (kk : J l z X d mm a (pc + 1) L (jI n :: S) (G, M) Q) : J l z X d mm a pc L (jR h :: S) (G, M) Q := by
  intro D aC p e R s m args below meth c Φ hc he H locs cells slots ls ha
  obtain ⟨hH, hl, hLn, hLo, hSo⟩ := id ha
  obtain ⟨hHs, hP, hS, hcl0, hsl0, hM⟩ := id hH
  refine va_alen (v := Int32.ofInt n) hc.1 hc.2.1 hc.2.2.2.2.2.2.2.2.1.2 hP h 1 (jws_get hG) rfl (by show Int32.ofNat n = _; rfl) hd ?_
  exact kk D aC p e R s m args below meth c Φ hc he H locs cells slots ls ⟨hH, hl, hLn, hLo, ⟨by omega, by omega⟩, hSo.2⟩
theorem J_alen2 {n h : Nat} {rs : List (Option Nat)} (hd : decode mm.2.1 pc = .ok (.arraylength, 1)) (hG : G[h]? = some (2, n, rs)) (hn : n < 2147483648) (kk : J l z X d mm a (pc + 1) L (jI n :: S) (G, M) Q) : J l z X d mm a pc L (jR h :: S) (G, M) Q := by
  intro D aC p e R s m args below meth c Φ hc he H locs cells slots ls ha
  obtain ⟨hH, hl, hLn, hLo, hSo⟩ := id ha
  obtain ⟨hHs, hP, hS, hcl0, hsl0, hM⟩ := id hH
  refine va_alen (v := Int32.ofInt n) hc.1 hc.2.1 hc.2.2.2.2.2.2.2.2.1.2 hP h 2 (jws_get hG) rfl (by show Int32.ofNat n = _; rfl) hd ?_
  exact kk D aC p e R s m args below meth c Φ hc he H locs cells slots ls ⟨hH, hl, hLn, hLo, ⟨by omega, by omega⟩, hSo.2⟩
theorem J_alen3 {n h : Nat} {rs : List (Option Nat)} (hd : decode mm.2.1 pc = .ok (.arraylength, 1)) (hG : G[h]? = some (3, n, rs)) (hn : n < 2147483648) (kk : J l z X d mm a (pc + 1) L (jI n :: S) (G, M) Q) : J l z X d mm a pc L (jR h :: S) (G, M) Q := by
  intro D aC p e R s m args below meth c Φ hc he H locs cells slots ls ha
  obtain ⟨hH, hl, hLn, hLo, hSo⟩ := id ha
  obtain ⟨hHs, hP, hS, hcl0, hsl0, hM⟩ := id hH
  refine va_alen (v := Int32.ofInt n) hc.1 hc.2.1 hc.2.2.2.2.2.2.2.2.1.2 hP h 3 (jws_get hG) rfl (by show Int32.ofNat n = _; rfl) hd ?_
  exact kk D aC p e R s m args below meth c Φ hc he H locs cells slots ls ⟨hH, hl, hLn, hLo, ⟨by omega, by omega⟩, hSo.2⟩
theorem J_alen4 {n h : Nat} {rs : List (Option Nat)} (hd : decode mm.2.1 pc = .ok (.arraylength, 1)) (hG : G[h]? = some (4, n, rs)) (hn : n < 2147483648) (kk : J l z X d mm a (pc + 1) L (jI n :: S) (G, M) Q) : J l z X d mm a pc L (jR h :: S) (G, M) Q := by
  intro D aC p e R s m args below meth c Φ hc he H locs cells slots ls ha
  obtain ⟨hH, hl, hLn, hLo, hSo⟩ := id ha
  obtain ⟨hHs, hP, hS, hcl0, hsl0, hM⟩ := id hH
  refine va_alen (v := Int32.ofInt n) hc.1 hc.2.1 hc.2.2.2.2.2.2.2.2.1.2 hP h 4 (jws_get hG) rfl (by show Int32.ofNat n = _; rfl) hd ?_
  exact kk D aC p e R s m args below meth c Φ hc he H locs cells slots ls ⟨hH, hl, hLn, hLo, ⟨by omega, by omega⟩, hSo.2⟩
theorem J_sld {i : Int} (hd : decode mm.2.1 pc = .ok (.iaload, 1)) (hsc : mm.2.2.2.2 = true) (h0 : 0 ≤ i) (h1 : i < X.2.1) (hx : jIn (X.2.2 i.toNat)) (kk : J l z X d mm a (pc + 1) L (jI (X.2.2 i.toNat) :: S) (G, M) Q) : J l z X d mm a pc L (jI i :: jS :: S) (G, M) Q := by
  intro D aC p e R s m args below meth c Φ hc he H locs cells slots ls ha
  obtain ⟨hH, hl, hLn, hLo, hSo⟩ := id ha
  obtain ⟨hHs, hP, hS, hcl0, hsl0, hM⟩ := id hH
  obtain ⟨g1, g2, g3⟩ := hc.2.2.2.2.2.2.2.2.2.2.2.2 hsc
  have hz := hc.2.2.2.2.2.2.2.2.2.2.2.1
  refine va_sld hc.1 hc.2.1 g1 (Nat.lt_of_lt_of_le g2 hz) (Nat.not_le.mpr g2) hS (j32_in h0 h1 hSo.1) hd ?_
  rw [j32_ix (n := X.2.1) h0 hSo.1]
  exact kk D aC p e R s m args below meth c Φ hc he H locs cells slots ls ⟨hH, hl, hLn, hLo, hx, hSo.2.2⟩
theorem J_slen (hd : decode mm.2.1 pc = .ok (.arraylength, 1)) (hsc : mm.2.2.2.2 = true) (kk : J l z X d mm a (pc + 1) L (jI X.2.1 :: S) (G, M) Q) : J l z X d mm a pc L (jS :: S) (G, M) Q := by
  intro D aC p e R s m args below meth c Φ hc he H locs cells slots ls ha
  obtain ⟨hH, hl, hLn, hLo, hSo⟩ := id ha
  obtain ⟨hHs, hP, hS, hcl0, hsl0, hM⟩ := id hH
  obtain ⟨g1, g2, g3⟩ := hc.2.2.2.2.2.2.2.2.2.2.2.2 hsc
  have hz := hc.2.2.2.2.2.2.2.2.2.2.2.1
  refine va_slen hc.1 hc.2.1 g1 (Nat.lt_of_lt_of_le g2 hz) (Nat.not_le.mpr g2) hS hd ?_
  exact kk D aC p e R s m args below meth c Φ hc he H locs cells slots ls ⟨hH, hl, hLn, hLo, ⟨by omega, by omega⟩, hSo.2⟩
end HEAPR
end
section
/-! ## calls: a method's J gives its contract; a contract is used at a call -/
def jpad : List jV → List jV
  | [] => []
  | .inr (.inl x) :: t => jL x :: jN :: jpad t
  | v :: t => v :: jpad t
theorem jpad_lg {z : Nat} {X : jX} : ∀ vs : List jV, (lg_sl (vs.map (jval z X))).length = (jpad vs).length
  | [] => rfl
  | .inl x :: t => congrArg (· + 1) (jpad_lg t)
  | .inr (.inl x) :: t => congrArg (· + 2) (jpad_lg t)
  | .inr (.inr none) :: t => congrArg (· + 1) (jpad_lg t)
  | .inr (.inr (some none)) :: t => congrArg (· + 1) (jpad_lg t)
  | .inr (.inr (some (some h))) :: t => congrArg (· + 1) (jpad_lg t)
theorem jlv_rep {z : Nat} {X : jX} {q : Nat × Value} : ∀ (n off : Nat), ¬ q ∈ jlv z X off (List.replicate n jN)
  | 0, off, h => by simp [jlv] at h
  | n + 1, off, h => by
    rw [List.replicate_succ] at h
    rcases jlv_cons.mp h with ⟨h, -⟩ | h
    · exact h rfl
    · exact jlv_rep n _ h
theorem jlv_pad {z : Nat} {X : jX} {q : Nat × Value} {n : Nat} : ∀ (vs : List jV) (off : Nat), q ∈ jlv z X off (jpad vs ++ List.replicate n jN) → q ∈ lv_args off (vs.map (jval z X))
  | [], off, h => absurd h (jlv_rep n off)
  | .inl x :: t, off, h => by
    rcases jlv_cons.mp (show q ∈ jlv z X off (jI x :: (jpad t ++ List.replicate n jN)) from h) with ⟨-, h⟩ | h
    · rw [h]; exact List.mem_cons_self
    · exact List.mem_cons_of_mem _ (jlv_pad t (off + 1) h)
  | .inr (.inl x) :: t, off, h => by
    rcases jlv_cons.mp (show q ∈ jlv z X off (jL x :: (jN :: (jpad t ++ List.replicate n jN))) from h) with ⟨-, h⟩ | h
    · rw [h]; exact List.mem_cons_self
    · rcases jlv_cons.mp h with ⟨h, -⟩ | h
      · exact absurd rfl h
      · exact List.mem_cons_of_mem _ (jlv_pad t (off + 2) h)
  | .inr (.inr none) :: t, off, h => by
    rcases jlv_cons.mp (show q ∈ jlv z X off (jN :: (jpad t ++ List.replicate n jN)) from h) with ⟨h, -⟩ | h
    · exact absurd rfl h
    · exact List.mem_cons_of_mem _ (jlv_pad t (off + 1) h)
  | .inr (.inr (some none)) :: t, off, h => by
    rcases jlv_cons.mp (show q ∈ jlv z X off (jS :: (jpad t ++ List.replicate n jN)) from h) with ⟨-, h⟩ | h
    · rw [h]; exact List.mem_cons_self
    · exact List.mem_cons_of_mem _ (jlv_pad t (off + 1) h)
  | .inr (.inr (some (some h0))) :: t, off, h => by
    rcases jlv_cons.mp (show q ∈ jlv z X off (jR h0 :: (jpad t ++ List.replicate n jN)) from h) with ⟨-, h⟩ | h
    · rw [h]; exact List.mem_cons_self
    · exact List.mem_cons_of_mem _ (jlv_pad t (off + 1) h)
theorem jokL_app : ∀ {A B : List jV}, jokL A → jokL B → jokL (A ++ B)
  | [], _, _, h => h
  | _ :: _, _, h1, h => ⟨h1.1, jokL_app h1.2 h⟩
theorem jokL_app1 : ∀ {A B : List jV}, jokL (A ++ B) → jokL A
  | [], _, _ => trivial
  | _ :: _, _, h1 => ⟨h1.1, jokL_app1 h1.2⟩
theorem jokL_app2 : ∀ {A B : List jV}, jokL (A ++ B) → jokL B
  | [], _, h => h
  | _ :: t, _, h1 => jokL_app2 (A := t) h1.2
theorem jokL_rep : ∀ n : Nat, jokL (List.replicate n jN)
  | 0 => trivial
  | n + 1 => ⟨trivial, jokL_rep n⟩
theorem jokL_pad : ∀ vs : List jV, jokL vs → jokL (jpad vs)
  | [], h => h
  | .inl x :: t, h => ⟨h.1, jokL_pad t h.2⟩
  | .inr (.inl x) :: t, h => ⟨h.1, trivial, jokL_pad t h.2⟩
  | .inr (.inr none) :: t, h => ⟨trivial, jokL_pad t h.2⟩
  | .inr (.inr (some none)) :: t, h => ⟨trivial, jokL_pad t h.2⟩
  | .inr (.inr (some (some h0))) :: t, h => ⟨trivial, jokL_pad t h.2⟩
theorem jokL_rev : ∀ {A : List jV}, jokL A.reverse → jokL A
  | [], _ => trivial
  | v :: t, h => by
    rw [List.reverse_cons] at h
    exact ⟨(jokL_app2 h).1, jokL_rev (jokL_app1 h)⟩
/-- what a method needs of the words -/
def jMd (mm : jMt) (np : Nat) : Prop := mm.2.2.2.2 = false ∧ plainName mm.1.cls = true ∧ Cond.code mm.1 mm.2.1 mm.2.2.1 mm.2.2.2.1 ∈ jW ∧ Cond.initialized mm.1.cls ∈ jW ∧ (mm.1.cls ≠ "java/lang/invoke/MethodHandle" ∧ mm.1.cls ≠ "java/lang/invoke/VarHandle" ∧ (parseMethodDescriptor mm.1.desc).map (fun d => d.parameters.length) = some np) ∧ mm.2.2.1 ≤ 40
abbrev jws0 (mm : jMt) : List Cond := Cond.code mm.1 mm.2.1 mm.2.2.1 mm.2.2.2.1 :: jW
abbrev jrm (d : Nat) (a : Nat × Nat) : Room := { frames := d, cells := a.1, slots := a.2, locals := 64 * d }
def jPc (z : Nat) (X : jX) (D : va_G) (aC : Nat → ClassId) (args : List jV) (μ : jM) : Array Value → State → Prop := fun av U => av = (args.map (jval z X)).toArray ∧ jKn D aC U ∧ U.heap.size = z + μ.1.length ∧ va_P D vwCl (jws z aC μ) U.heap ∧ jokM μ ∧ jokL args
def jQc (z : Nat) (X : jX) (D : va_G) (aC : Nat → ClassId) (Q : Option jV → jM → Prop) : Array Value → State → Outcome → State → Prop := fun _ st o t => ∃ (r : Option jV) (μ : jM), Q r μ ∧ o = .returned (r.map (jval z X)) ∧ t.heap.size = z + μ.1.length ∧ va_P D vwCl (jws z aC μ) t.heap ∧ jokM μ ∧ jokL r.toList ∧ st.heap.size ≤ t.heap.size ∧ ∀ q : Nat, q < st.heap.size → ¬ z ≤ q → t.heap[q]? = st.heap[q]?
theorem jPc_blind {z : Nat} {X : jX} {D : va_G} {aC : Nat → ClassId} {args : List jV} {μ : jM} : FrameBlind (jPc z X D aC args μ) := fun a U g mk h => ⟨h.1, jKn.same (s := U) (U := U.calling g mk a) rfl h.2.1, h.2.2⟩
theorem met_of_J {l : Launch} {z : Nat} {X : jX} {d : Nat} {mm : jMt} {a : Nat × Nat} {args L0 : List jV} {μ : jM} {Q : Option jV → jM → Prop} {np : Nat} (D : va_G) (aC : Nat → ClassId) (hm : jMd mm np) (hlen : (jpad args).length ≤ mm.2.2.1) (hL0 : L0 = jpad args ++ List.replicate (mm.2.2.1 - (jpad args).length) jN) (hJ : J l z X d mm a 0 L0 [] μ Q) :
    Met l mm.1 (jws0 mm) (jrm d a) (jPc z X D aC args μ) (jQc z X D aC Q) a.1 a.2 (fun q => z ≤ q) := by
  obtain ⟨hsc, hpl, hcode, -, -, -⟩ := hm
  refine Met.ofW (cc := mm.2.1) (maxL := mm.2.2.1) (ret := mm.2.2.2.1) hpl rfl ?_
  intro p e s m args' below meth c s₁ B hml hv
  obtain ⟨rfl, hkn, hsz, hP, hM, hok⟩ := hv
  rw [lg_entry_eq]
  have hts := atoms_spec (ws := jws0 mm) B.pre
  have hl := lv_entry (args.map (jval z X)) (n := mm.2.2.1) (by rw [jpad_lg]; exact hlen)
  have hl1 : lv_has ((lg_sl (args.map (jval z X)) ++ List.replicate (mm.2.2.1 - (lg_sl (args.map (jval z X))).length) Slot.unset).toArray) mm.2.2.1 (jlv z X 0 L0) := ⟨hl.1, hl.2.1, fun q hq => hl.2.2 q (jlv_pad args 0 (by rw [← hL0]; exact hq))⟩
  have hctx : jCtx z X d mm D aC p (jrm d a) s m (args.map (jval z X)).toArray meth c := ⟨B.exec, B.bytes, hml, B.returns, B.notSynchronized, findClass_of_methodNamed B.named, (name_of_methodNamed B.named B.method).1, fun w hw => hts w (List.mem_cons_of_mem _ hw), hkn, Nat.le_refl _, Nat.le_refl _, by rw [hsz]; exact Nat.le_add_right _ _, fun q => by rw [hsc] at q; exact absurd q (by decide)⟩
  have hat : jAt z X mm D aC (jrm d a) a s L0 [] μ s.heap [] 0 0 ((lg_sl (args.map (jval z X)) ++ List.replicate (mm.2.2.1 - (lg_sl (args.map (jval z X))).length) Slot.unset).toArray) := ⟨⟨hsz, hP, va_S.rf, by show 0 + a.1 ≤ a.1; omega, by show 0 + a.2 ≤ a.2; omega, hM⟩, hl1, by rw [hL0]; simp; omega, by rw [hL0]; exact jokL_app (jokL_pad _ hok) (jokL_rep _), trivial⟩
  refine hJ D aC p e (jrm d a) s m (args.map (jval z X)).toArray below meth c _ hctx ?_ s.heap [] 0 0 _ hat
  intro r μ' hq a' L H locs cells slots ls pc hat2 hret
  obtain ⟨⟨g1, g2, g3, g4, g5, g6⟩, -, -, -, gok⟩ := hat2
  have g4' : cells ≤ a.1 := Nat.le_trans (Nat.le_add_right _ _) g4
  have g5' : slots ≤ a.2 := Nat.le_trans (Nat.le_add_right _ _) g5
  have hx := B.exec
  have hb := B.bytes
  have hr := B.returns
  have hlocks := B.notSynchronized
  have hQ : ∀ t : State, t.heap = H → jQc z X D aC Q (args.map (jval z X)).toArray s (.returned (r.map (jval z X))) t := fun t ht => ⟨r, μ', hq, rfl, by rw [ht]; exact g1, by rw [ht]; exact g2, g6, gok, by rw [ht]; exact g3.1, fun q h1 h2 => by rw [ht]; exact g3.2.1 q h1 h2⟩
  refine W.widen g4' g5' ?_
  rcases r with _ | x | x | (_ | _ | x)
  · exact W.vret hx hb (hr.trans hret.1) (fun t ht _ => hQ t ht) g3.2.2 hret.2
  · obtain ⟨h1 | ⟨h1, h2⟩, h3⟩ := hret
    · exact W.iret hx hb (hr.trans h1) (fun t ht _ => hQ t ht) g3.2.2 h3
    · exact W.zret hx hb (hr.trans h1) (by rcases h2 with rfl | rfl <;> decide +kernel) (fun t ht _ => hQ t ht) g3.2.2 h3
  · exact W.lret hx hb (hr.trans hret.1) (fun t ht _ => hQ t ht) g3.2.2 hret.2
  · exact absurd hret (by simp [jRet])
  · exact absurd hret (by simp [jRet])
  · exact absurd hret (by simp [jRet])
theorem jcat_sum {z : Nat} {X : jX} {S : List jV} {n : Nat} (h : ((S.map (jval z X)).map fun v => v.category).sum = n) (hn : n ≤ 8) : ((S.map (jval z X)).map fun v => v.category).sum ≤ 8 := by rw [h]; exact hn
def jcat : jV → Nat
  | .inr (.inl _) => 2
  | _ => 1
theorem jcat_eq {z : Nat} {X : jX} (v : jV) : (jval z X v).category = jcat v := by rcases v with x | x | (_ | _ | x) <;> rfl
theorem jcats {z : Nat} {X : jX} : ∀ S : List jV, ((S.map (jval z X)).map fun v => v.category).sum = (S.map jcat).sum
  | [] => rfl
  | v :: t => by
    simp only [List.map_cons, List.sum_cons, jcat_eq]
    rw [jcats t]
section CALLR
variable {l : Launch} {z : Nat} {X : jX} {d : Nat} {mm : jMt} {pc : Nat} {L S : List jV} {μ : jM} {Q : Option jV → jM → Prop}
/-- the common end of the four kinds of call -/
theorem jgo {D : va_G} {aC : Nat → ClassId} {p : Program} {e : Env} {R : Room} {s : State} {m : MethodId} {args : Array Value} {below : List Frame} {meth : Method} {c : Code} {Φ : State → Prop} {H : Heap} {locs : List Loc} {cells slots : Nat} {ls : Array Slot} {a1 a2 : Nat × Nat} {st : List jV} {av : Array Value}
    (hc : jCtx z X d mm D aC p R s m args meth c) (he : jEnd z X mm D aC l p e R s m args below meth c Q Φ) (ha : jAt z X mm D aC R (a1.1 + a2.1, a1.2 + a2.2) s L st μ H locs cells slots ls) (hS : jokL S)
    (hrun : va_Run p l e R s m args below meth c H locs cells slots a1.1 a1.2 (F0 m pc ls (st.map (jval z X))) (S.map (jval z X)) (jQc z X D aC (fun r μ' => J l z X d mm a2 (pc + 3) L (r.toList ++ S) μ' Q) av) (fun q => z ≤ q)) :
    W p l e R s m args below meth c H locs cells slots Φ (F0 m pc ls (st.map (jval z X))) := by
  obtain ⟨⟨hs, hP, hSt, h4, h5, hM⟩, hl, hLn, hLo, hSo⟩ := ha
  intro T hT X0
  obtain ⟨v, st₀, t, T', L', h0, X', hL', e1, e2, ⟨r, μ', hq, ho, q1, q2, q3, q4, q5, q6⟩, stp⟩ := hrun T hT X0
  have hv : v = r.map (jval z X) := Outcome.returned.inj ho
  rw [h0] at q5 q6
  have hat : jAt z X mm D aC R a2 s L (r.toList ++ S) μ' T'.heap (locs ++ L') (cells + a1.1) (slots + a1.2) ls := by
    refine ⟨⟨by rw [e1]; exact q1, by rw [e1]; exact q2, ⟨Nat.le_trans hSt.1 (by rw [e1]; exact q5), fun q g1 g2 => ?_, fun q hq => ?_⟩, ?_, ?_, q3⟩, hl, hLn, hLo, jokL_app q4 hS⟩
    · rw [e1, q6 q (Nat.lt_of_lt_of_le g1 hSt.1) g2]
      exact hSt.2.1 q g1 g2
    · rcases List.mem_append.mp hq with g | g
      · exact hSt.2.2 q g
      · exact hL' q g
    · have h4' : cells + (a1.1 + a2.1) ≤ R.cells := h4
      omega
    · have h5' : slots + (a1.2 + a2.2) ≤ R.slots := h5
      omega
  obtain ⟨t2, b1, b2⟩ := hq D aC p e R s m args below meth c Φ hc he T'.heap (locs ++ L') (cells + a1.1) (slots + a1.2) ls hat T' rfl X'
  refine ⟨t2, stp t2 ?_, b2⟩
  have e9 : v.toList ++ S.map (jval z X) = (r.toList ++ S).map (jval z X) := by
    rw [hv]
    cases r <;> rfl
  rw [e9]
  exact b1
theorem jPc_at {D : va_G} {aC : Nat → ClassId} {s : State} {H : Heap} {args : List jV} (hk : jKn D aC s) (hs : H.size = z + μ.1.length) (hP : va_P D vwCl (jws z aC μ) H) (hM : jokM μ) (ho : jokL args) : ∀ U : State, U.heap = H → s.WarmedH U.vm → jPc z X D aC args μ (args.map (jval z X)).toArray U := fun U hU hW => ⟨rfl, hk.warm hW, by rw [hU]; exact hs, by rw [hU]; exact hP, hM, ho⟩
theorem J_callV {a1 a2 : Nat × Nat} {mm' : jMt} {index np h n ci : Nat} {C : String} {T : u_T} {rs : List (Option Nat)} {L0 st : List jV} (args : List jV) (hm : jMd mm' np) (hi : Cond.instanceMethod mm'.1 ∈ jW) (hse : Cond.selects mm'.1.cls mm'.1 mm'.1 ∈ jW) (hd : decode mm.2.1 pc = .ok (.invokevirtual index, 3)) (hw : Cond.methodLink mm.1.cls index mm'.1 ∈ jW)
    (hcl : vwCl[ci]? = some (C, T, n)) (hC : mm'.1.cls = C) (hG : μ.1[h]? = some (ci + 5, n, rs)) (hnp : args.length = np) (hst : st = args.reverse ++ jR h :: S) (hcat : (S.map jcat).sum ≤ 8) (hlen : (jpad (jR h :: args)).length ≤ mm'.2.2.1) (hL0 : L0 = jpad (jR h :: args) ++ List.replicate (mm'.2.2.1 - (jpad (jR h :: args)).length) jN)
    (k : J l z X d mm' a1 0 L0 [] μ (fun r μ' => J l z X (d + 1) mm a2 (pc + 3) L (r.toList ++ S) μ' Q)) : J l z X (d + 1) mm (a1.1 + a2.1, a1.2 + a2.2) pc L st μ Q := by
  subst hst
  intro D aC p e R s m args0 below meth c Φ hc he H locs cells slots ls ha
  obtain ⟨⟨hs, hP, hSt, h4, h5, hM⟩, hl, hLn, hLo, hSo⟩ := id ha
  obtain ⟨hx, hb, hml, hr, hlk, hown, hnm, hts, hkn, hdf, hdl, hz, -⟩ := id hc
  have hMet := met_of_J D aC hm hlen hL0 k
  have hA := jokL_rev (jokL_app1 hSo)
  have hS' := (jokL_app2 (A := args.reverse) hSo).2
  obtain ⟨G, M⟩ := μ
  refine jgo hc he ha hS' (av := (Value.ref (z + h) :: args.map (jval z X)).toArray) ?_
  have hG1 : GoodIn jW (jws0 mm') := fun w hw => by
    rcases List.mem_cons.mp hw with e9 | e9
    · rw [e9]; exact jW_good _ hm.2.2.1
    · exact jW_good w e9
  have hnl := hm.2.2.2.2.2
  have hcw : CallW R s args0 mm.1.cls C index mm'.1 mm'.2.1 mm'.2.2.1 mm'.2.2.2.1 (jws0 mm') (jrm d a1) a1.1 a1.2 np := by
    refine ⟨callB_of np hts hG1 rfl rfl rfl (hts _ hm.2.2.2.1) (hts _ hw) hm.2.2.2.2.1 ⟨hdf, ?_⟩, hts _ hi, ?_⟩
    · show 8 + (mm'.2.2.1 + 11) + 64 * d ≤ R.locals
      omega
    · rw [← hC]; exact hts _ hse
  exact va_runV (As := args.map (jval z X)) ⟨hx, hb, hml, hown, hts⟩ hMet hcw ⟨jPc_blind, va_recv hkn.2 hP (ci := ci) (q0 := h) hcl (jws_get hG), jPc_at (args := jR h :: args) hkn hs hP hM ⟨trivial, hA⟩⟩ rfl (by rw [List.length_map]; exact hnp) hl.1 (by simp [jval, List.map_reverse]) (lv_room (by rw [jcats]; exact hcat)) hd
    ⟨by have h4' : cells + (a1.1 + a2.1) ≤ R.cells := h4; omega, by have h5' : slots + (a1.2 + a2.2) ≤ R.slots := h5; omega⟩
theorem J_callS {a1 a2 : Nat × Nat} {mm' : jMt} {index np : Nat} {L0 st : List jV} (args : List jV) (hm : jMd mm' np) (hi : Cond.static mm'.1 ∈ jW) (hd : decode mm.2.1 pc = .ok (.invokestatic index, 3)) (hw : Cond.methodLink mm.1.cls index mm'.1 ∈ jW)
    (hnp : args.length = np) (hst : st = args.reverse ++ S) (hcat : (S.map jcat).sum ≤ 8) (hlen : (jpad args).length ≤ mm'.2.2.1) (hL0 : L0 = jpad args ++ List.replicate (mm'.2.2.1 - (jpad args).length) jN)
    (k : J l z X d mm' a1 0 L0 [] μ (fun r μ' => J l z X (d + 1) mm a2 (pc + 3) L (r.toList ++ S) μ' Q)) : J l z X (d + 1) mm (a1.1 + a2.1, a1.2 + a2.2) pc L st μ Q := by
  subst hst
  intro D aC p e R s m args0 below meth c Φ hc he H locs cells slots ls ha
  obtain ⟨⟨hs, hP, hSt, h4, h5, hM⟩, hl, hLn, hLo, hSo⟩ := id ha
  obtain ⟨hx, hb, hml, hr, hlk, hown, hnm, hts, hkn, hdf, hdl, hz, -⟩ := id hc
  have hMet := met_of_J D aC hm hlen hL0 k
  have hA := jokL_rev (jokL_app1 hSo)
  refine jgo hc he ha (jokL_app2 hSo) (av := (args.map (jval z X)).toArray) ?_
  have hG1 : GoodIn jW (jws0 mm') := fun w hw => by
    rcases List.mem_cons.mp hw with e9 | e9
    · rw [e9]; exact jW_good _ hm.2.2.1
    · exact jW_good w e9
  have hnl := hm.2.2.2.2.2
  have hcw : CallB R s args0 mm.1.cls index mm'.1 mm'.2.1 mm'.2.2.1 mm'.2.2.2.1 (jws0 mm') (jrm d a1) a1.1 a1.2 np ∧ (Cond.static mm'.1).before args0 s = true := by
    refine ⟨callB_of np hts hG1 rfl rfl rfl (hts _ hm.2.2.2.1) (hts _ hw) hm.2.2.2.2.1 ⟨hdf, ?_⟩, hts _ hi⟩
    show 8 + (mm'.2.2.1 + 11) + 64 * d ≤ R.locals
    omega
  exact va_runS (As := args.map (jval z X)) ⟨hx, hb, hml, hown, hts⟩ hMet hcw ⟨jPc_blind, jPc_at hkn hs hP hM hA⟩ rfl (by rw [List.length_map]; exact hnp) hl.1 (by simp [List.map_reverse]) (lv_room (by rw [jcats]; exact hcat)) hd
    ⟨by have h4' : cells + (a1.1 + a2.1) ≤ R.cells := h4; omega, by have h5' : slots + (a1.2 + a2.2) ≤ R.slots := h5; omega⟩
theorem J_callI {a1 a2 : Nat × Nat} {mm' : jMt} {index np h : Nat} {L0 st : List jV} (args : List jV) (hm : jMd mm' np) (hi : Cond.instanceMethod mm'.1 ∈ jW) (hret : mm'.2.2.2.1 = none) (hini : mm'.1.name = "<init>") (hd : decode mm.2.1 pc = .ok (.invokespecial index, 3)) (hw : Cond.methodLink mm.1.cls index mm'.1 ∈ jW)
    (hnp : args.length = np) (hst : st = args.reverse ++ jR h :: S) (hcat : (S.map jcat).sum ≤ 8) (hlen : (jpad (jR h :: args)).length ≤ mm'.2.2.1) (hL0 : L0 = jpad (jR h :: args) ++ List.replicate (mm'.2.2.1 - (jpad (jR h :: args)).length) jN)
    (k : J l z X d mm' a1 0 L0 [] μ (fun r μ' => J l z X (d + 1) mm a2 (pc + 3) L (r.toList ++ S) μ' Q)) : J l z X (d + 1) mm (a1.1 + a2.1, a1.2 + a2.2) pc L st μ Q := by
  subst hst
  intro D aC p e R s m args0 below meth c Φ hc he H locs cells slots ls ha
  obtain ⟨⟨hs, hP, hSt, h4, h5, hM⟩, hl, hLn, hLo, hSo⟩ := id ha
  obtain ⟨hx, hb, hml, hr, hlk, hown, hnm, hts, hkn, hdf, hdl, hz, -⟩ := id hc
  have hMet := met_of_J D aC hm hlen hL0 k
  have hA := jokL_rev (jokL_app1 hSo)
  refine jgo hc he ha (jokL_app2 (A := args.reverse) hSo).2 (av := (Value.ref (z + h) :: args.map (jval z X)).toArray) ?_
  have hG1 : GoodIn jW (jws0 mm') := fun w hw => by
    rcases List.mem_cons.mp hw with e9 | e9
    · rw [e9]; exact jW_good _ hm.2.2.1
    · exact jW_good w e9
  have hnl := hm.2.2.2.2.2
  have hcw : CallB R s args0 mm.1.cls index mm'.1 mm'.2.1 mm'.2.2.1 none (jws0 mm') (jrm d a1) a1.1 a1.2 np ∧ mm'.1.name = "<init>" ∧ (Cond.instanceMethod mm'.1).before args0 s = true := by
    refine ⟨callB_of np hts hG1 (by unfold jws0; rw [hret]) rfl rfl (hts _ hm.2.2.2.1) (hts _ hw) hm.2.2.2.2.1 ⟨hdf, ?_⟩, hini, hts _ hi⟩
    show 8 + (mm'.2.2.1 + 11) + 64 * d ≤ R.locals
    omega
  exact va_runI (b := z + h) (As := args.map (jval z X)) ⟨hx, hb, hml, hown, hts⟩ hMet hcw ⟨jPc_blind, jPc_at (args := jR h :: args) hkn hs hP hM ⟨trivial, hA⟩⟩ rfl (by rw [List.length_map]; exact hnp) hl.1 (by simp [jval, List.map_reverse]) (lv_room (by rw [jcats]; exact hcat)) hd
    ⟨by have h4' : cells + (a1.1 + a2.1) ≤ R.cells := h4; omega, by have h5' : slots + (a1.2 + a2.2) ≤ R.slots := h5; omega⟩
theorem J_callIN {a1 a2 : Nat × Nat} {mm' : jMt} {index np h : Nat} {host : String} {L0 st : List jV} (args : List jV) (hm : jMd mm' np) (hi : Cond.instanceMethod mm'.1 ∈ jW) (hret : mm'.2.2.2.1 = none) (hini : mm'.1.name = "<init>") (hd : decode mm.2.1 pc = .ok (.invokespecial index, 3)) (hw : Cond.methodLinkNest mm.1.cls index mm'.1 host ∈ jNW)
    (hnp : args.length = np) (hst : st = args.reverse ++ jR h :: S) (hcat : (S.map jcat).sum ≤ 8) (hlen : (jpad (jR h :: args)).length ≤ mm'.2.2.1) (hL0 : L0 = jpad (jR h :: args) ++ List.replicate (mm'.2.2.1 - (jpad (jR h :: args)).length) jN)
    (k : J l z X d mm' a1 0 L0 [] μ (fun r μ' => J l z X (d + 1) mm a2 (pc + 3) L (r.toList ++ S) μ' Q)) : J l z X (d + 1) mm (a1.1 + a2.1, a1.2 + a2.2) pc L st μ Q := by
  subst hst
  intro D aC p e R s m args0 below meth c Φ hc he H locs cells slots ls ha
  obtain ⟨⟨hs, hP, hSt, h4, h5, hM⟩, hl, hLn, hLo, hSo⟩ := id ha
  obtain ⟨hx, hb, hml, hr, hlk, hown, hnm, hts, hkn, hdf, hdl, hz, -⟩ := id hc
  have hMet := met_of_J D aC hm hlen hL0 k
  have hA := jokL_rev (jokL_app1 hSo)
  refine jgo hc he ha (jokL_app2 (A := args.reverse) hSo).2 (av := (Value.ref (z + h) :: args.map (jval z X)).toArray) ?_
  have hG1 : GoodIn jW (jws0 mm') := fun w hw => by
    rcases List.mem_cons.mp hw with e9 | e9
    · rw [e9]; exact jW_good _ hm.2.2.1
    · exact jW_good w e9
  have hnl := hm.2.2.2.2.2
  have hcw : va_CN R s args0 mm.1.cls index mm'.1 host mm'.2.1 mm'.2.2.1 none (jws0 mm') (jrm d a1) a1.1 a1.2 np ∧ mm'.1.name = "<init>" ∧ (Cond.instanceMethod mm'.1).before args0 s = true := by
    refine ⟨va_cnB np hts hG1 (by unfold jws0; rw [hret]) rfl rfl (hkn.1 _ hw) (hts _ hm.2.2.2.1) hm.2.2.2.2.1 ⟨hdf, ?_⟩, hini, hts _ hi⟩
    show 8 + (mm'.2.2.1 + 11) + 64 * d ≤ R.locals
    omega
  exact va_runIN (b := z + h) (As := args.map (jval z X)) ⟨hx, hb, hml, hown, hts⟩ hMet hcw ⟨jPc_blind, jPc_at (args := jR h :: args) hkn hs hP hM ⟨trivial, hA⟩⟩ rfl (by rw [List.length_map]; exact hnp) hl.1 (by simp [jval, List.map_reverse]) (lv_room (by rw [jcats]; exact hcat)) hd
    ⟨by have h4' : cells + (a1.1 + a2.1) ≤ R.cells := h4; omega, by have h5' : slots + (a1.2 + a2.2) ≤ R.slots := h5; omega⟩
end CALLR
end
section
/-! ## System.arraycopy of ints from place 0 to place 0 -/
def jcpy (M : Nat → Int → Int) (h0 h1 : Nat) (n : Int) : Nat → Int → Int := fun h i => if h = h1 ∧ 0 ≤ i ∧ i < n then M h0 i else M h i
theorem jcpy_ne (M : Nat → Int → Int) {h0 h1 h : Nat} (n : Int) (e : h ≠ h1) : jcpy M h0 h1 n h = M h := funext fun _ => by simp [jcpy, e]
theorem jcpy_at (M : Nat → Int → Int) (h0 h1 : Nat) {n i : Int} (e : 0 ≤ i ∧ i < n) : jcpy M h0 h1 n h1 i = M h0 i := by simp [jcpy, e]
theorem J_acopy {l : Launch} {z : Nat} {X : jX} {d : Nat} {mm : jMt} {a : Nat × Nat} {pc : Nat} {L S : List jV} {G : List jKd} {M : Nat → Int → Int} {Q : Option jV → jM → Prop} {index n0 n1 h0 h1 : Nat} {n : Int} {rs0 rs1 : List (Option Nat)} (hd : decode mm.2.1 pc = .ok (.invokestatic index, 3)) (hw : Cond.methodLink mm.1.cls index arraycopyName ∈ jW) (hnat : Cond.native arraycopyName ∈ jW) (hstat : Cond.static arraycopyName ∈ jW) (hini : Cond.initialized "java/lang/System" ∈ jW)
    (hG0 : G[h0]? = some (0, n0, rs0)) (hG1 : G[h1]? = some (0, n1, rs1)) (hn : 0 ≤ n) (hn0 : n ≤ n0) (hn1 : n ≤ n1) (hcat : (S.map jcat).sum ≤ 8) (hd1 : 1 ≤ d)
    (kk : J l z X d mm a (pc + 3) L S (G, jcpy M h0 h1 n) Q) : J l z X d mm a pc L (jI n :: jI 0 :: jR h1 :: jI 0 :: jR h0 :: S) (G, M) Q := by
  intro D aC p e R s m args below meth c Φ hc he H locs cells slots ls ha
  obtain ⟨hH, hl, hLn, hLo, hSo⟩ := id ha
  obtain ⟨hHs, hP, hS, hcl0, hsl0, hM⟩ := id hH
  obtain ⟨hx, hb, hml, hr, hlk, hown, hnm, hts, hkn, hdf, hdl, hz, -⟩ := id hc
  intro T hT X0
  have hni : (Int32.ofInt n).toNatClampNeg = n.toNat := j32_ix (n := n0) hn hSo.1
  have h00 : (Int32.ofInt 0).toNatClampNeg = 0 := j32_ix (n := n0) (Int.le_refl 0) jIn0
  have h0i : (Int32.ofInt 0).toInt = 0 := j32 jIn0
  have hnn : (Int32.ofInt n).toInt = n := j32 hSo.1
  have hc0 : H[z + h0]? = some (vp_cell (aC 0) (n0, .inl (fun j => Int32.ofInt (M h0 j)))) := hP h0 _ (jws_get hG0)
  have hc1 : H[z + h1]? = some (vp_cell (aC 0) (n1, .inl (fun j => Int32.ofInt (M h1 j)))) := hP h1 _ (jws_get hG1)
  obtain ⟨-, k0, hk0, cm0, hkk0⟩ := (hkn.2.2 0 _ rfl).1 n0 (fun j => .int (Int32.ofInt (M h0 j)))
  obtain ⟨-, k1, hk1, cm1, hkk1⟩ := (hkn.2.2 0 _ rfl).1 n1 (fun j => .int (Int32.ofInt (M h1 j)))
  obtain ⟨vm', X', step⟩ := X0.arraycopy hx hown (hts _ hw) (hts _ hnat) (hts _ hstat) (hts _ hini) (src := z + h0) (dst := z + h1) (cs := vp_cell (aC 0) (n0, .inl (fun j => Int32.ofInt (M h0 j)))) (cd := vp_cell (aC 0) (n1, .inl (fun j => Int32.ofInt (M h1 j)))) (srcPos := Int32.ofInt 0) (destPos := Int32.ofInt 0) (n := Int32.ofInt n) (by rw [hT]; exact hc0) (by rw [hT]; exact hc1)
    (fun _ h => by cases h) (fun _ h => by cases h) (fun h => by cases h) (fun h => by cases h) hk0 hk1 hkk0 hkk1 rfl (by rw [Int32.lt_iff_toInt_lt, h0i]; decide) (by rw [Int32.lt_iff_toInt_lt, h0i]; decide) (by rw [Int32.lt_iff_toInt_lt, hnn]; simpa using hn)
    (by rw [h0i, hnn]; show ¬ _ > ((arrV (aC 0) n0 (fun j => .int (Int32.ofInt (M h0 j)))).slots.size : Int); rw [arrV_size]; omega)
    (by rw [h0i, hnn]; show ¬ _ > ((arrV (aC 0) n1 (fun j => .int (Int32.ofInt (M h1 j)))).slots.size : Int); rw [arrV_size]; omega)
    (fun vm₁ _ i hi => by
      have e9 : (vp_cell (aC 0) (n0, .inl (fun j => Int32.ofInt (M h0 j)))).slots.getD ((Int32.ofInt 0).toNatClampNeg + i) .null = .int (Int32.ofInt (M h0 (((Int32.ofInt 0).toNatClampNeg + i : Nat) : Int))) := by
        show (arrV (aC 0) n0 (fun j => .int (Int32.ofInt (M h0 j)))).slots.getD _ _ = _
        rw [Array.getD_eq_getD_getElem?, arrV_read _ _ (by rw [h00]; rw [hni] at hi; omega)]
        rfl
      exact ⟨by rw [e9]; rfl, by rw [e9]; exact trivial⟩)
    (g := F0 m pc ls ((jI n :: jI 0 :: jR h1 :: jI 0 :: jR h0 :: S).map (jval z X))) rfl (by rw [hml]; exact hl.1) (rest := S.map (jval z X)) rfl (by rw [hb]; exact hd) (Nat.le_trans hd1 hdf) (by
      show 2 * 0 + _ + _ ≤ _
      rw [jcats]
      have : nativeFrameWords "java/lang/System" "arraycopy" 5 + 11 ≤ 40 := by decide +kernel
      omega)
  have e1 := va_copied (n := (Int32.ofInt n).toNatClampNeg) (dp := (Int32.ofInt 0).toNatClampNeg) (sp := (Int32.ofInt 0).toNatClampNeg) (n1 := n1) (fun z => Value.int z) (aC 0) (aC 0) (fun j => Int32.ofInt (M h0 j)) (fun j => Int32.ofInt (M h1 j)) (n0 := n0) (by rw [h00, hni]; omega)
  have e2 : copied (vp_cell (aC 0) (n0, .inl (fun j => Int32.ofInt (M h0 j)))) (vp_cell (aC 0) (n1, .inl (fun j => Int32.ofInt (M h1 j)))) (Int32.ofInt 0) (Int32.ofInt 0) (Int32.ofInt n) = vp_cell (aC 0) (n1, .inl (fun j => Int32.ofInt (jcpy M h0 h1 n h1 j))) := by
    refine Eq.trans e1 ?_
    rw [vp_cell_i]
    refine congrArg (arrV (aC 0) n1) (funext fun j => ?_)
    unfold va_cpy jcpy
    rw [h00, hni]
    by_cases hj : j < n.toNat
    · rw [if_pos ⟨Nat.zero_le _, by omega⟩, if_pos ⟨rfl, by omega, by omega⟩]
      simp
    · rw [if_neg (by omega), if_neg (by omega)]
  rw [e2] at X' step
  have hlt : z + h1 < H.size := (Array.getElem?_eq_some_iff.mp hc1).1
  generalize hHn : H.setIfInBounds (z + h1) (vp_cell (aC 0) (n1, .inl (fun j => Int32.ofInt (jcpy M h0 h1 n h1 j)))) = H1
  have hheap : ((T.setVm vm').setCell (z + h1) (vp_cell (aC 0) (n1, .inl (fun j => Int32.ofInt (jcpy M h0 h1 n h1 j))))).heap = H1 := by rw [← hHn, ← hT]; rfl
  have oq : ∀ q : Nat, q ≠ z + h1 → H1[q]? = H[q]? := fun q hq => by rw [← hHn]; simp [Array.getElem?_setIfInBounds, Ne.symm hq]
  have oz : H1.size = H.size := by rw [← hHn]; simp
  have hat1 : H1[z + h1]? = some (vp_cell (aC 0) (n1, .inl (fun j => Int32.ofInt (jcpy M h0 h1 n h1 j)))) := by rw [← hHn]; simp [Array.getElem?_setIfInBounds, hlt]
  have hP1 := hP.set jws_D (jws_get hG1) (e := .inl (aC 0, n1, .inl (fun j => Int32.ofInt (jcpy M h0 h1 n h1 j)))) hat1 oq
  rw [jws_set (G' := G) (M' := jcpy M h0 h1 n) rfl (by rw [jget0 hG1]; rfl) (fun j hj => ⟨rfl, jcpy_ne M n hj⟩)] at hP1
  have hM1 : jokM (G, jcpy M h0 h1 n) := by
    intro k' j
    obtain ⟨g1, g2, g3⟩ := hM k' j
    dsimp only at g1 g2 g3 ⊢
    unfold jcpy
    by_cases hh : k' = h1 ∧ 0 ≤ j ∧ j < n
    · rw [if_pos hh]
      obtain ⟨r1, -, -⟩ := hh
      subst r1
      have e3 : jlen G k' = 0 := by unfold jlen; rw [jget0 hG1]
      have e4 : k' < G.length := (List.getElem?_eq_some_iff.mp hG1).1
      exact ⟨fun q => by rw [e3] at q; exact absurd q (by decide), fun _ => jokM_int hM (k := h0) hG0 (show ¬ (0 : Nat) = 1 by decide) j, fun q => absurd e4 (Nat.not_lt.mpr q)⟩
    · rw [if_neg hh]
      exact ⟨g1, g2, g3⟩
  obtain ⟨t, b1, b2⟩ := kk D aC p e R s m args below meth c Φ hc he H1 _ cells slots ls ⟨⟨by rw [oz]; exact hHs, hP1, ⟨by rw [oz]; exact hS.1, fun q g1 g2 => by
      rw [oq q (fun r => g2 (by rw [r]; exact Nat.le_add_right _ _))]
      exact hS.2.1 q g1 g2, fun q hq => by
      rcases List.mem_append.mp hq with g | g
      · exact hS.2.2 q g
      · obtain ⟨w, -, hw9⟩ := List.mem_map.mp g
        rw [← hw9]
        exact Nat.le_add_right _ _⟩, hcl0, hsl0, hM1⟩, hl, hLn, hLo, hSo.2.2.2.2.2⟩ _ hheap X'
  exact ⟨t, step t b1, b2⟩
end
section
/-! ## new cells -/
theorem jget_app1 {G ks : List jKd} {k : Nat} (h : k < G.length) : (G ++ ks).getD k (0, 0, []) = G.getD k (0, 0, []) := by
  rw [List.getD_eq_getElem?_getD, List.getD_eq_getElem?_getD, List.getElem?_append_left h]
theorem jget_app2 {G ks : List jKd} {i : Nat} : (G ++ ks).getD (G.length + i) (0, 0, []) = ks.getD i (0, 0, []) := by
  rw [List.getD_eq_getElem?_getD, List.getD_eq_getElem?_getD, List.getElem?_append_right (Nat.le_add_right _ _), Nat.add_sub_cancel_left]
theorem jws_app {z : Nat} {aC : Nat → ClassId} {G ks : List jKd} {M : Nat → Int → Int} : jws z aC (G ++ ks, M) = jws z aC (G, M) ++ (List.range ks.length).map (fun i => (z + (G.length + i), jent z aC (ks.getD i (0, 0, [])) (M (G.length + i)))) := by
  unfold jws
  simp only [List.length_append, List.range_add, List.map_append, List.map_map]
  congr 1
  · apply List.map_congr_left
    intro k hk
    rw [jget_app1 (List.mem_range.mp hk)]
  · apply List.map_congr_left
    intro k hk
    simp only [Function.comp]
    rw [jget_app2]
theorem jlen_app {G ks : List jKd} {M : Nat → Int → Int} (h : jokM (G, M)) : jokM (G ++ ks, M) := by
  intro k j
  obtain ⟨h1, h2, h3⟩ := h k j
  dsimp only at h1 h2 h3 ⊢
  by_cases hk : k < G.length
  · have e : jlen (G ++ ks) k = jlen G k := by unfold jlen; rw [jget_app1 hk]
    rw [e]
    exact ⟨h1, h2, fun q => absurd hk (by rw [List.length_append] at q; omega)⟩
  · have e := h3 (Nat.not_lt.mp hk)
    rw [e]
    exact ⟨fun _ => by unfold jInL; omega, fun _ => by unfold jIn; omega, fun _ => rfl⟩
theorem jHp_new {z : Nat} {D : va_G} {aC : Nat → ClassId} {R : Room} {s : State} {a : Nat × Nat} {G ks : List jKd} {M : Nat → Int → Int} {H H1 : Heap} {locs : List Loc} {cells slots n : Nat} (h : jHp z D aC R (a.1 + ks.length, a.2 + n) s (G, M) H locs cells slots) (hE : ∀ (i : Nat) (kd : jKd), ks[i]? = some kd → va_at D vwCl (z + (G.length + i), jent z aC kd (M (G.length + i))) H1) (hz : H1.size = H.size + ks.length) (ho : ∀ q : Nat, q < H.size → H1[q]? = H[q]?) : jHp z D aC R a s (G ++ ks, M) H1 locs (cells + ks.length) (slots + n) := by
  obtain ⟨hs, hP, hS, h4, h5, hM⟩ := h
  refine ⟨?_, ?_, ⟨Nat.le_trans hS.1 (by omega), fun q g1 g2 => (ho q (Nat.lt_of_lt_of_le g1 hS.1)).trans (hS.2.1 q g1 g2), hS.2.2⟩, ?_, ?_, jlen_app hM⟩
  · rw [hz, hs]
    simp only [List.length_append]
    omega
  · rw [jws_app]
    refine (hP.kept (fun k q hk => ho q.1 (hP k q hk).lt)).app (fun k q hk => ?_)
    have hk1 := (List.getElem?_eq_some_iff.mp hk).1
    simp only [List.length_map, List.length_range] at hk1
    rw [List.getElem?_map, List.getElem?_range hk1] at hk
    have hk2 : (z + (G.length + k), jent z aC (ks.getD k (0, 0, [])) (M (G.length + k))) = q := Option.some.inj hk
    rw [← hk2]
    obtain ⟨kd, hkd⟩ : ∃ kd, ks[k]? = some kd := ⟨ks[k], List.getElem?_eq_getElem hk1⟩
    have := hE k kd hkd
    rw [List.getD_eq_getElem?_getD, hkd]
    exact this
  · have h4' : cells + (a.1 + ks.length) ≤ R.cells := h4
    omega
  · have h5' : slots + (a.2 + n) ≤ R.slots := h5
    omega
section ALLOC
variable {l : Launch} {z : Nat} {X : jX} {d : Nat} {mm : jMt} {a : Nat × Nat} {pc : Nat} {L S : List jV} {G : List jKd} {M : Nat → Int → Int} {Q : Option jV → jM → Prop}
theorem J_new {ci n index : Nat} {C : String} {T : u_T} (hcl : jCl ci C T n) (hdf : ∀ k, k < n → defaultValue (jfty ci k) = if jisref (jfty ci k) = true then .null else .int 0) (hd : decode mm.2.1 pc = .ok (.new index, 3)) (hw : Cond.classLink mm.1.cls index C ∈ jW) (hins : Cond.instantiable C n ∈ jW) (hini : Cond.initialized C ∈ jW)
    (kk : J l z X d mm a (pc + 3) L (jR G.length :: S) (G ++ [(ci + 5, n, List.replicate n none)], M) Q) : J l z X d mm (a.1 + 1, a.2 + n) pc L S (G, M) Q := by
  intro D aC p e R s m args below meth c Φ hc he H locs cells slots ls ha
  obtain ⟨hH, hl, hLn, hLo, hSo⟩ := id ha
  obtain ⟨hHs, hP, hS, hcl0, hsl0, hM⟩ := id hH
  obtain ⟨hx, hb, hml, hr, hlk, hown, hnm, hts, hkn, hdfr, hdl, hz, -⟩ := id hc
  obtain ⟨c1, c2, c3, c4, c5⟩ := hcl
  have hKn := hkn.2.1 ci _ c1
  have g4 : cells + (a.1 + 1) ≤ R.cells := hcl0
  have g5 : slots + (a.2 + n) ≤ R.slots := hsl0
  refine W.newcK hx hb hown (hts _ hw) (hts _ hins) (hts _ hini) rfl hd (by omega) (by omega) hKn.2.1 (h := z + G.length) hHs fun H1 kC hkC e1 z1 o1 => ?_
  have hE : va_at D vwCl (z + G.length, jent z aC (ci + 5, n, List.replicate n none) (M G.length)) H1 := by
    refine ⟨_, c1, (u_born (jfty ci) hts c2 hKn hkC e1 c3).to (fun k hk => ?_)⟩
    rw [hdf k hk]
    unfold vp_V
    rw [List.getD_eq_getElem?_getD, jfs_get hk]
    unfold jfv
    have e9 : M G.length (k : Int) = 0 := (hM G.length k).2.2 (Nat.le_refl _)
    rw [e9]
    by_cases hj : jisref (jfty ci k) = true
    · rw [if_pos hj, if_pos hj]
      simp [jrf, List.getD_eq_getElem?_getD, hk, va_rf]
    · rw [if_neg hj, if_neg hj]
      rfl
  have hH1 := jHp_new (ks := [(ci + 5, n, List.replicate n none)]) hH (H1 := H1) (fun i kd hi => by
    cases i with
    | zero => cases hi; exact hE
    | succ i => cases hi) (by rw [z1]; show _ = H.size + 1; rw [hHs]) (fun q hq => o1 q (by rw [← hHs]; exact hq))
  exact kk D aC p e R s m args below meth c Φ hc he H1 locs (cells + 1) (slots + n) ls ⟨hH1, hl, hLn, hLo, trivial, hSo⟩
theorem J_objInit {index h : Nat} (hd : decode mm.2.1 pc = .ok (.invokespecial index, 3)) (hw : Cond.methodLink mm.1.cls index Lib.objectInit ∈ jW) (hi : Cond.instanceMethod Lib.objectInit ∈ jW) (hcode : Cond.code Lib.objectInit ⟨#[0xb1]⟩ 1 none ∈ jW) (hd1 : 1 ≤ d) (hcat : (S.map jcat).sum ≤ 8)
    (kk : J l z X d mm a (pc + 3) L S (G, M) Q) : J l z X d mm a pc L (jR h :: S) (G, M) Q := by
  intro D aC p e R s m args below meth c Φ hc he H locs cells slots ls ha
  obtain ⟨hH, hl, hLn, hLo, hSo⟩ := id ha
  obtain ⟨hx, hb, hml, hr, hlk, hown, hnm, hts, hkn, hdfr, hdl, hz, -⟩ := id hc
  refine W.objInit hx hb hown (hts _ hw) (hts _ hi) (hts _ hcode) rfl (by rw [hml]; exact hl.1) rfl hd (Nat.le_trans hd1 hdfr) (by
    show 2 * 0 + (List.map (fun v => v.category) (S.map (jval z X))).sum + 12 ≤ _
    rw [jcats]
    omega) ?_
  exact kk D aC p e R s m args below meth c Φ hc he H locs cells slots ls ⟨hH, hl, hLn, hLo, hSo.2⟩
theorem J_newaI {n : Int} {N : Nat} (hd : decode mm.2.1 pc = .ok (.newarray .int, 2)) (hw : Cond.arrayClass .int ∈ jW) (hN : n = (N : Int)) (hb : N * 8 ≤ 536870912) (kk : J l z X d mm a (pc + 2) L (jR G.length :: S) (G ++ [(0, N, [])], M) Q) : J l z X d mm (a.1 + 1, a.2 + N) pc L (jI n :: S) (G, M) Q := by
  intro D aC p e R s m args below meth c Φ hc he H locs cells slots ls ha
  obtain ⟨hH, hl, hLn, hLo, hSo⟩ := id ha
  obtain ⟨hHs, hP, hS, hcl0, hsl0, hM⟩ := id hH
  obtain ⟨hx, hbb, hml, hr, hlk, hown, hnm, hts, hkn, hdfr, hdl, hz, -⟩ := id hc
  have g4 : cells + (a.1 + 1) ≤ R.cells := hcl0
  have g5 : slots + (a.2 + N) ≤ R.slots := hsl0
  have hni : (Int32.ofInt n).toNatClampNeg = N := by rw [j32_ix (n := N) (by omega) hSo.1, hN]; simp
  refine va_newaK hx hbb (atype := .int) (hts _ hw) rfl hd rfl (by rw [Int32.lt_iff_toInt_lt, j32 hSo.1]; show ¬ n < (0 : Int32).toInt; rw [show (0 : Int32).toInt = 0 by decide]; omega) hni (Nat.le_trans (Nat.mul_le_mul_left N (show componentBytes (newarray.typeOf .int) ≤ 8 by decide +kernel)) hb) (by omega) (by omega) (h := z + G.length) hHs fun H1 cA e1 z1 o1 hAr hNm => ?_
  have hcA : cA = aC 0 := by
    have h9 := (hkn.2.2 0 _ rfl).2
    have h8 : s.vm.findClass ("[" ++ (.int : FieldType).toString) = some (aC 0) := h9
    exact Option.some.inj (hNm.symm.trans h8)
  subst hcA
  have hE : va_at D vwCl (z + G.length, jent z aC (0, N, []) (M G.length)) H1 := by
    show H1[z + G.length]? = some (vp_cell (aC 0) (N, .inl (fun j => Int32.ofInt (M G.length j))))
    rw [e1, vp_cell_i]
    refine congrArg some (congrArg (arrV (aC 0) N) (funext fun j => ?_))
    have e9 : M G.length (j : Int) = 0 := (hM G.length j).2.2 (Nat.le_refl _)
    rw [e9]
    rfl
  have hH1 := jHp_new (ks := [(0, N, [])]) hH (H1 := H1) (fun i kd hi => by
    cases i with
    | zero => cases hi; exact hE
    | succ i => cases hi) (by rw [z1]; show _ = H.size + 1; rw [hHs]) (fun q hq => o1 q (by rw [← hHs]; exact hq))
  exact kk D aC p e R s m args below meth c Φ hc he H1 locs (cells + 1) (slots + N) ls ⟨hH1, hl, hLn, hLo, trivial, hSo.2⟩
theorem J_newaL {n : Int} {N : Nat} (hd : decode mm.2.1 pc = .ok (.newarray .long, 2)) (hw : Cond.arrayClass .long ∈ jW) (hN : n = (N : Int)) (hb : N * 8 ≤ 536870912) (kk : J l z X d mm a (pc + 2) L (jR G.length :: S) (G ++ [(1, N, [])], M) Q) : J l z X d mm (a.1 + 1, a.2 + N) pc L (jI n :: S) (G, M) Q := by
  intro D aC p e R s m args below meth c Φ hc he H locs cells slots ls ha
  obtain ⟨hH, hl, hLn, hLo, hSo⟩ := id ha
  obtain ⟨hHs, hP, hS, hcl0, hsl0, hM⟩ := id hH
  obtain ⟨hx, hbb, hml, hr, hlk, hown, hnm, hts, hkn, hdfr, hdl, hz, -⟩ := id hc
  have g4 : cells + (a.1 + 1) ≤ R.cells := hcl0
  have g5 : slots + (a.2 + N) ≤ R.slots := hsl0
  have hni : (Int32.ofInt n).toNatClampNeg = N := by rw [j32_ix (n := N) (by omega) hSo.1, hN]; simp
  refine va_newaK hx hbb (atype := .long) (hts _ hw) rfl hd rfl (by rw [Int32.lt_iff_toInt_lt, j32 hSo.1]; show ¬ n < (0 : Int32).toInt; rw [show (0 : Int32).toInt = 0 by decide]; omega) hni (Nat.le_trans (Nat.mul_le_mul_left N (show componentBytes (newarray.typeOf .long) ≤ 8 by decide +kernel)) hb) (by omega) (by omega) (h := z + G.length) hHs fun H1 cA e1 z1 o1 hAr hNm => ?_
  have hcA : cA = aC 1 := by
    have h9 := (hkn.2.2 1 _ rfl).2
    have h8 : s.vm.findClass ("[" ++ (.long : FieldType).toString) = some (aC 1) := h9
    exact Option.some.inj (hNm.symm.trans h8)
  subst hcA
  have hE : va_at D vwCl (z + G.length, jent z aC (1, N, []) (M G.length)) H1 := by
    show H1[z + G.length]? = some (vp_cell (aC 1) (N, .inr (.inl (fun j => Int64.ofInt (M G.length j)))))
    rw [e1, vp_cell_l]
    refine congrArg some (congrArg (arrV (aC 1) N) (funext fun j => ?_))
    have e9 : M G.length (j : Int) = 0 := (hM G.length j).2.2 (Nat.le_refl _)
    rw [e9]
    rfl
  have hH1 := jHp_new (ks := [(1, N, [])]) hH (H1 := H1) (fun i kd hi => by
    cases i with
    | zero => cases hi; exact hE
    | succ i => cases hi) (by rw [z1]; show _ = H.size + 1; rw [hHs]) (fun q hq => o1 q (by rw [← hHs]; exact hq))
  exact kk D aC p e R s m args below meth c Φ hc he H1 locs (cells + 1) (slots + N) ls ⟨hH1, hl, hLn, hLo, trivial, hSo.2⟩
theorem J_newaZ {n : Int} {N : Nat} (hd : decode mm.2.1 pc = .ok (.newarray .boolean, 2)) (hw : Cond.arrayClass .boolean ∈ jW) (hN : n = (N : Int)) (hb : N * 8 ≤ 536870912) (kk : J l z X d mm a (pc + 2) L (jR G.length :: S) (G ++ [(2, N, [])], M) Q) : J l z X d mm (a.1 + 1, a.2 + N) pc L (jI n :: S) (G, M) Q := by
  intro D aC p e R s m args below meth c Φ hc he H locs cells slots ls ha
  obtain ⟨hH, hl, hLn, hLo, hSo⟩ := id ha
  obtain ⟨hHs, hP, hS, hcl0, hsl0, hM⟩ := id hH
  obtain ⟨hx, hbb, hml, hr, hlk, hown, hnm, hts, hkn, hdfr, hdl, hz, -⟩ := id hc
  have g4 : cells + (a.1 + 1) ≤ R.cells := hcl0
  have g5 : slots + (a.2 + N) ≤ R.slots := hsl0
  have hni : (Int32.ofInt n).toNatClampNeg = N := by rw [j32_ix (n := N) (by omega) hSo.1, hN]; simp
  refine va_newaK hx hbb (atype := .boolean) (hts _ hw) rfl hd rfl (by rw [Int32.lt_iff_toInt_lt, j32 hSo.1]; show ¬ n < (0 : Int32).toInt; rw [show (0 : Int32).toInt = 0 by decide]; omega) hni (Nat.le_trans (Nat.mul_le_mul_left N (show componentBytes (newarray.typeOf .boolean) ≤ 8 by decide +kernel)) hb) (by omega) (by omega) (h := z + G.length) hHs fun H1 cA e1 z1 o1 hAr hNm => ?_
  have hcA : cA = aC 2 := by
    have h9 := (hkn.2.2 2 _ rfl).2
    have h8 : s.vm.findClass ("[" ++ (.boolean : FieldType).toString) = some (aC 2) := h9
    exact Option.some.inj (hNm.symm.trans h8)
  subst hcA
  have hE : va_at D vwCl (z + G.length, jent z aC (2, N, []) (M G.length)) H1 := by
    show H1[z + G.length]? = some (vp_cell (aC 2) (N, .inl (fun j => Int32.ofInt (M G.length j))))
    rw [e1, vp_cell_i]
    refine congrArg some (congrArg (arrV (aC 2) N) (funext fun j => ?_))
    have e9 : M G.length (j : Int) = 0 := (hM G.length j).2.2 (Nat.le_refl _)
    rw [e9]
    rfl
  have hH1 := jHp_new (ks := [(2, N, [])]) hH (H1 := H1) (fun i kd hi => by
    cases i with
    | zero => cases hi; exact hE
    | succ i => cases hi) (by rw [z1]; show _ = H.size + 1; rw [hHs]) (fun q hq => o1 q (by rw [← hHs]; exact hq))
  exact kk D aC p e R s m args below meth c Φ hc he H1 locs (cells + 1) (slots + N) ls ⟨hH1, hl, hLn, hLo, trivial, hSo.2⟩
theorem J_anew4 {n : Int} {N index : Nat} (hd : decode mm.2.1 pc = .ok (.anewarray index, 3)) (hw : Cond.classLink mm.1.cls index RX2 ∈ jW) (hov : Cond.arrayOver (.object RX2) ∈ jNW) (hN : n = (N : Int)) (hb : N * 4 ≤ 536870912) (kk : J l z X d mm a (pc + 3) L (jR G.length :: S) (G ++ [(4, N, List.replicate N none)], M) Q) : J l z X d mm (a.1 + 1, a.2 + N) pc L (jI n :: S) (G, M) Q := by
  intro D aC p e R s m args below meth c Φ hc he H locs cells slots ls ha
  obtain ⟨hH, hl, hLn, hLo, hSo⟩ := id ha
  obtain ⟨hHs, hP, hS, hcl0, hsl0, hM⟩ := id hH
  obtain ⟨hx, hbb, hml, hr, hlk, hown, hnm, hts, hkn, hdfr, hdl, hz, -⟩ := id hc
  have g4 : cells + (a.1 + 1) ≤ R.cells := hcl0
  have g5 : slots + (a.2 + N) ≤ R.slots := hsl0
  have hni : (Int32.ofInt n).toNatClampNeg = N := by rw [j32_ix (n := N) (by omega) hSo.1, hN]; simp
  refine W.anew hx hbb hown (hts _ hw) (va_AO.use (hkn.1 _ hov)) rfl hd rfl (by rw [Int32.lt_iff_toInt_lt, j32 hSo.1]; show ¬ n < (0 : Int32).toInt; rw [show (0 : Int32).toInt = 0 by decide]; omega) (by rw [hni]; exact hb) (by omega) (by rw [hni]; omega) fun cA kA comp f1 f2 f3 f4 => ?_
  have hcA : cA = aC 4 := by
    obtain ⟨_, _, _, _, _, h8⟩ := (hkn.2.2 4 _ rfl).2
    exact Option.some.inj (f1.symm.trans h8)
  subst hcA
  rw [hni]
  generalize hH1g : H.push ({ cls := aC 4, slots := Array.replicate N .null, vm := .none } : Cell) = H1
  have z1 : H1.size = H.size + 1 := by rw [← hH1g, Array.size_push]
  have e1 : H1[H.size]? = some (arrV (aC 4) N (fun _ => .null)) := by rw [← hH1g, Array.getElem?_push_size, ← arrV_new]
  have o1 : ∀ q : Nat, q < H.size → H1[q]? = H[q]? := fun q hq => by rw [← hH1g, Array.getElem?_push, if_neg (Nat.ne_of_lt hq)]
  rw [hHs] at e1
  have hE : va_at D vwCl (z + G.length, jent z aC (4, N, List.replicate N none) (M G.length)) H1 := by
    show H1[z + G.length]? = some (vp_cell (aC 4) (N, .inr (.inr (.inr (.inr (jrf z (List.replicate N none)))))))
    rw [e1, vp_cell_q]
    refine congrArg some (congrArg (arrV (aC 4) N) (funext fun j => ?_))
    unfold jrf
    rw [List.getD_eq_getElem?_getD]
    by_cases hj : j < N
    · simp [hj, va_rf]
    · simp [hj, va_rf]
  have hH1 := jHp_new (ks := [(4, N, List.replicate N none)]) hH (H1 := H1) (fun i kd hi => by
    cases i with
    | zero => cases hi; exact hE
    | succ i => cases hi) z1 o1
  have k1 := kk D aC p e R s m args below meth c Φ hc he H1 locs (cells + 1) (slots + N) ls ⟨hH1, hl, hLn, hLo, trivial, hSo.2⟩
  rw [hHs]
  exact k1
theorem J_aast4 {n h h' ci nf : Nat} {i : Int} {rs rs' : List (Option Nat)} {T : u_T} (hd : decode mm.2.1 pc = .ok (.aastore, 1)) (hG : G[h]? = some (4, n, rs)) (h0 : 0 ≤ i) (h1 : i < n) (hrl : rs.length = n) (hv : G[h']? = some (ci + 5, nf, rs')) (hcl : vwCl[ci]? = some (RX2, T, nf)) (kk : J l z X d mm a (pc + 1) L S (G.set h (4, n, rs.set i.toNat (some h')), M) Q) : J l z X d mm a pc L (jR h' :: jI i :: jR h :: S) (G, M) Q := by
  intro D aC p e R s m args below meth c Φ hc he H locs cells slots ls ha
  obtain ⟨hH, hl, hLn, hLo, hSo⟩ := id ha
  obtain ⟨hHs, hP, hS, hcl0, hsl0, hM⟩ := id hH
  obtain ⟨hx, hbb, hml, hr, hlk, hown, hnm, hts, hkn, hdfr, hdl, hz, -⟩ := id hc
  have hi : (Int32.ofInt i).toNatClampNeg = i.toNat := j32_ix (n := n) h0 hSo.2.1
  have hin := j32_in h0 h1 hSo.2.1
  have hlt : (Int32.ofInt i).toNatClampNeg < n := Nat.not_le.mp fun q => hin (Or.inr q)
  have hn0 : ¬ Int32.ofInt i < 0 := fun q => hin (Or.inl q)
  obtain ⟨r', hr', cellV, g1, g2, g3, -⟩ := hP h' _ (jws_get hv)
  have hcls := (hkn.2.1 ci _ hcl).2
  obtain ⟨kA, comp, k1, k2, k3, -⟩ := (hkn.2.2 4 _ rfl).2
  have hcomp : comp = D.1 ci := Option.some.inj (k3.symm.trans hcls.1)
  subst hcomp
  obtain ⟨kC, hkC, -⟩ := hcls.2
  refine W.aast hx hbb (hP h _ (jws_get hG)) (fun q h => by cases h) (fun h => by cases h) k1 k2 rfl hkC ⟨hn0, by show _ < (arrV _ _ _).slots.size; rw [arrV_size]; exact hlt⟩ g1 (fun q h => by rw [g3] at h; cases h) (by rw [g2]; exact hkC) (by rw [g2]; exact va_assign hcls) rfl rfl hd fun H1 e1 e2 e3 => ?_
  have hE : va_at D vwCl (z + h, Sum.inl (aC 4, n, .inr (.inr (.inr (.inr (jrf z (rs.set i.toNat (some h')))))))) H1 := by
    show H1[z + h]? = some (vp_cell _ _)
    rw [e1]
    show some (Cell.setSlot (arrV _ _ _) _ _) = _
    rw [vp_cell_q, arrV_store]
    congr 2
    funext q
    rw [hi]
    rw [hi] at hlt
    by_cases hq : q = i.toNat
    · subst hq
      simp [updV, jrf, va_rf, List.getD_eq_getElem?_getD, hrl, hlt]
    · simp [updV, hq, jrf, List.getD_eq_getElem?_getD, List.getElem?_set_ne (Ne.symm hq)]
  have hl0 := (List.getElem?_eq_some_iff.mp hG).1
  have hG1 : (G.set h (4, n, rs.set i.toNat (some h'))).getD h (0, 0, []) = (4, n, rs.set i.toNat (some h')) := jget0 (by rw [List.getElem?_set_self hl0])
  have hG2 : ∀ j, j ≠ h → (G.set h (4, n, rs.set i.toNat (some h'))).getD j (0, 0, []) = G.getD j (0, 0, []) := fun j hj => by rw [List.getD_eq_getElem?_getD, List.getD_eq_getElem?_getD, List.getElem?_set_ne (Ne.symm hj)]
  have hH1 := jHp_put (i := (Int32.ofInt i).toNatClampNeg) (G' := G.set h (4, n, rs.set i.toNat (some h'))) (M' := M) (kd' := (4, n, rs.set i.toNat (some h'))) hH hG hE e2 e3 (List.length_set) hG1 rfl (fun j hj => ⟨hG2 j hj, rfl⟩) (by
    intro k' j
    have h9 : jlen (G.set h (4, n, rs.set i.toNat (some h'))) k' = jlen G k' := by
      unfold jlen
      by_cases hkh : k' = h
      · subst hkh; rw [hG1, jget0 hG]
      · rw [hG2 k' hkh]
    dsimp only
    rw [h9, List.length_set]
    exact hM k' j)
  exact kk D aC p e R s m args below meth c Φ hc he H1 _ cells slots ls ⟨hH1, hl, hLn, hLo, hSo.2.2.2⟩
end ALLOC
end
section
/-! ## Math.max, Math.min; a long comparison with its branch -/
section MATHR
variable {l : Launch} {z : Nat} {X : jX} {d : Nat} {mm : jMt} {a : Nat × Nat} {pc : Nat} {L S : List jV} {μ : jM} {Q : Option jV → jM → Prop}
theorem jIn_max {x y : Int} (hx : jIn x) (hy : jIn y) : jIn (max x y) := by
  have h1 := hx.1; have h2 := hx.2; have h3 := hy.1; have h4 := hy.2
  exact ⟨by omega, by omega⟩
theorem jIn_min {x y : Int} (hx : jIn x) (hy : jIn y) : jIn (min x y) := by
  have h1 := hx.1; have h2 := hx.2; have h3 := hy.1; have h4 := hy.2
  exact ⟨by omega, by omega⟩
theorem J_mmax {index : Nat} {x y : Int} (hd : decode mm.2.1 pc = .ok (.invokestatic index, 3)) (hw : Cond.methodLink mm.1.cls index Lib.Math.max.name ∈ jW) (hst : Cond.static Lib.Math.max.name ∈ jW) (hini : Cond.initialized "java/lang/Math" ∈ jW) (hcode : Cond.code Lib.Math.max.name Lib.Math.max.code 2 (some .int) ∈ jW) (hd1 : 1 ≤ d) (hcat : (S.map jcat).sum ≤ 8)
    (kk : J l z X d mm a (pc + 3) L (jI (max x y) :: S) μ Q) : J l z X d mm a pc L (jI y :: jI x :: S) μ Q := by
  intro D aC p e R s m args below meth c Φ hc he H locs cells slots ls ha
  obtain ⟨hH, hl, hLn, hLo, hSo⟩ := id ha
  obtain ⟨hHs, hP, hS, hcl0, hsl0, hM⟩ := id hH
  obtain ⟨hx, hb, hml, hr, hlk, hown, hnm, hts, hkn, hdf, hdl, hz, -⟩ := id hc
  refine va_mmax hx hb (by rw [hml]; exact hl.1.symm) hown (hts _ hw) (hts _ hst) (hts _ hini) (hts _ hcode) (Nat.le_trans hd1 hdf) (by rw [jcats]; omega) (Nat.le_trans (Nat.le_add_right _ _) hcl0) (Nat.le_trans (Nat.le_add_right _ _) hsl0) hd ?_
  have e9 : (if Int32.ofInt x < Int32.ofInt y then Int32.ofInt y else Int32.ofInt x) = Int32.ofInt (max x y) := by
    have e8 := j32_lt hSo.2.1 hSo.1
    by_cases q : x < y
    · rw [if_pos (e8.mpr q), show max x y = y by omega]
    · rw [if_neg (fun r => q (e8.mp r)), show max x y = x by omega]
  rw [e9]
  exact kk D aC p e R s m args below meth c Φ hc he H locs cells slots ls ⟨hH, hl, hLn, hLo, jIn_max hSo.2.1 hSo.1, hSo.2.2⟩
theorem J_mmin {index : Nat} {x y : Int} (hd : decode mm.2.1 pc = .ok (.invokestatic index, 3)) (hw : Cond.methodLink mm.1.cls index Lib.Math.min.name ∈ jW) (hst : Cond.static Lib.Math.min.name ∈ jW) (hini : Cond.initialized "java/lang/Math" ∈ jW) (hcode : Cond.code Lib.Math.min.name Lib.Math.min.code 2 (some .int) ∈ jW) (hd1 : 1 ≤ d) (hcat : (S.map jcat).sum ≤ 8)
    (kk : J l z X d mm a (pc + 3) L (jI (min x y) :: S) μ Q) : J l z X d mm a pc L (jI y :: jI x :: S) μ Q := by
  intro D aC p e R s m args below meth c Φ hc he H locs cells slots ls ha
  obtain ⟨hH, hl, hLn, hLo, hSo⟩ := id ha
  obtain ⟨hHs, hP, hS, hcl0, hsl0, hM⟩ := id hH
  obtain ⟨hx, hb, hml, hr, hlk, hown, hnm, hts, hkn, hdf, hdl, hz, -⟩ := id hc
  refine va_mmin hx hb (by rw [hml]; exact hl.1.symm) hown (hts _ hw) (hts _ hst) (hts _ hini) (hts _ hcode) (Nat.le_trans hd1 hdf) (by rw [jcats]; omega) (Nat.le_trans (Nat.le_add_right _ _) hcl0) (Nat.le_trans (Nat.le_add_right _ _) hsl0) hd ?_
  have e9 : (if Int32.ofInt y < Int32.ofInt x then Int32.ofInt y else Int32.ofInt x) = Int32.ofInt (min x y) := by
    have e7 := j32_lt hSo.1 hSo.2.1
    by_cases q : y < x
    · rw [if_pos (e7.mpr q), show min x y = y by omega]
    · rw [if_neg (fun r => q (e7.mp r)), show min x y = x by omega]
  rw [e9]
  exact kk D aC p e R s m args below meth c Φ hc he H locs cells slots ls ⟨hH, hl, hLn, hLo, jIn_min hSo.2.1 hSo.1, hSo.2.2⟩
theorem J_mmaxL {index : Nat} {x y : Int} (hd : decode mm.2.1 pc = .ok (.invokestatic index, 3)) (hw : Cond.methodLink mm.1.cls index Lib.MathLoose.max_long.x ∈ jW) (hst : Cond.static Lib.MathLoose.max_long.x ∈ jW) (hini : Cond.initialized "java/lang/Math" ∈ jW) (hcode : Cond.code Lib.MathLoose.max_long.x Lib.MathLoose.max_long.code 4 (some .long) ∈ jW) (hd1 : 1 ≤ d) (hcat : (S.map jcat).sum ≤ 8)
    (kk : J l z X d mm a (pc + 3) L (jL (max x y) :: S) μ Q) : J l z X d mm a pc L (jL y :: jL x :: S) μ Q := by
  intro D aC p e R s m args below meth c Φ hc he H locs cells slots ls ha
  obtain ⟨hH, hl, hLn, hLo, hSo⟩ := id ha
  obtain ⟨hHs, hP, hS, hcl0, hsl0, hM⟩ := id hH
  obtain ⟨hx, hb, hml, hr, hlk, hown, hnm, hts, hkn, hdf, hdl, hz, -⟩ := id hc
  refine va_mmax_long hx hb (by rw [hml]; exact hl.1.symm) hown (hts _ hw) (hts _ hst) (hts _ hini) (hts _ hcode) (Nat.le_trans hd1 hdf) (by rw [jcats]; omega) (Nat.le_trans (Nat.le_add_right _ _) hcl0) (Nat.le_trans (Nat.le_add_right _ _) hsl0) hd ?_
  have e9 : (if Int64.ofInt y < Int64.ofInt x then Int64.ofInt x else Int64.ofInt y) = Int64.ofInt (max x y) := by
    have e8 : Int64.ofInt y < Int64.ofInt x ↔ y < x := by rw [Int64.lt_iff_toInt_lt, j64 hSo.1, j64 hSo.2.1]
    by_cases q : y < x
    · rw [if_pos (e8.mpr q), show max x y = x by omega]
    · rw [if_neg (fun r => q (e8.mp r)), show max x y = y by omega]
  rw [e9]
  have h1 := hSo.1.1; have h2 := hSo.1.2; have h3 := hSo.2.1.1; have h4 := hSo.2.1.2
  exact kk D aC p e R s m args below meth c Φ hc he H locs cells slots ls ⟨hH, hl, hLn, hLo, ⟨by omega, by omega⟩, hSo.2.2⟩
theorem J_lif_eq {x y off : Int} {tgt : Nat} (hd : decode mm.2.1 pc = .ok (.lcmp, 1)) (hd2 : decode mm.2.1 (pc + 1) = .ok (.ifCond .eq off, 3)) (ht : ((pc + 1 : Nat) : Int) + off = (tgt : Int)) (kt : x = y → J l z X d mm a tgt L S μ Q) (kf : x ≠ y → J l z X d mm a (pc + 1 + 3) L S μ Q) : J l z X d mm a pc L (jL y :: jL x :: S) μ Q := by
  refine J_lcmp hd (J_if_eq hd2 ht (fun h => kt ?_) (fun h => kf ?_))
  all_goals (split at h <;> first | omega | (split at h <;> omega))
theorem J_lif_ne {x y off : Int} {tgt : Nat} (hd : decode mm.2.1 pc = .ok (.lcmp, 1)) (hd2 : decode mm.2.1 (pc + 1) = .ok (.ifCond .ne off, 3)) (ht : ((pc + 1 : Nat) : Int) + off = (tgt : Int)) (kt : x ≠ y → J l z X d mm a tgt L S μ Q) (kf : x = y → J l z X d mm a (pc + 1 + 3) L S μ Q) : J l z X d mm a pc L (jL y :: jL x :: S) μ Q := by
  refine J_lcmp hd (J_if_ne hd2 ht (fun h => kt ?_) (fun h => kf ?_))
  all_goals (split at h <;> first | omega | (split at h <;> omega))
theorem J_lif_lt {x y off : Int} {tgt : Nat} (hd : decode mm.2.1 pc = .ok (.lcmp, 1)) (hd2 : decode mm.2.1 (pc + 1) = .ok (.ifCond .lt off, 3)) (ht : ((pc + 1 : Nat) : Int) + off = (tgt : Int)) (kt : x < y → J l z X d mm a tgt L S μ Q) (kf : y ≤ x → J l z X d mm a (pc + 1 + 3) L S μ Q) : J l z X d mm a pc L (jL y :: jL x :: S) μ Q := by
  refine J_lcmp hd (J_if_lt hd2 ht (fun h => kt ?_) (fun h => kf ?_))
  all_goals (split at h <;> first | omega | (split at h <;> omega))
theorem J_lif_ge {x y off : Int} {tgt : Nat} (hd : decode mm.2.1 pc = .ok (.lcmp, 1)) (hd2 : decode mm.2.1 (pc + 1) = .ok (.ifCond .ge off, 3)) (ht : ((pc + 1 : Nat) : Int) + off = (tgt : Int)) (kt : y ≤ x → J l z X d mm a tgt L S μ Q) (kf : x < y → J l z X d mm a (pc + 1 + 3) L S μ Q) : J l z X d mm a pc L (jL y :: jL x :: S) μ Q := by
  refine J_lcmp hd (J_if_ge hd2 ht (fun h => kt ?_) (fun h => kf ?_))
  all_goals (split at h <;> first | omega | (split at h <;> omega))
theorem J_lif_gt {x y off : Int} {tgt : Nat} (hd : decode mm.2.1 pc = .ok (.lcmp, 1)) (hd2 : decode mm.2.1 (pc + 1) = .ok (.ifCond .gt off, 3)) (ht : ((pc + 1 : Nat) : Int) + off = (tgt : Int)) (kt : y < x → J l z X d mm a tgt L S μ Q) (kf : x ≤ y → J l z X d mm a (pc + 1 + 3) L S μ Q) : J l z X d mm a pc L (jL y :: jL x :: S) μ Q := by
  refine J_lcmp hd (J_if_gt hd2 ht (fun h => kt ?_) (fun h => kf ?_))
  all_goals (split at h <;> first | omega | (split at h <;> omega))
theorem J_lif_le {x y off : Int} {tgt : Nat} (hd : decode mm.2.1 pc = .ok (.lcmp, 1)) (hd2 : decode mm.2.1 (pc + 1) = .ok (.ifCond .le off, 3)) (ht : ((pc + 1 : Nat) : Int) + off = (tgt : Int)) (kt : x ≤ y → J l z X d mm a tgt L S μ Q) (kf : y < x → J l z X d mm a (pc + 1 + 3) L S μ Q) : J l z X d mm a pc L (jL y :: jL x :: S) μ Q := by
  refine J_lcmp hd (J_if_le hd2 ht (fun h => kt ?_) (fun h => kf ?_))
  all_goals (split at h <;> first | omega | (split at h <;> omega))
end MATHR
end
section
/-! ## tables: the cells as the constructors lay them, the constants, the methods, the words -/
def jG : List jKd := [
  (13, 8, [some 1, some 6, some 11, some 19, some 66, some 68, some 71, some 77]),
  (6, 8, [some 2, some 3, some 4, some 5, none, none, none, none]),
  (0, 6, []),
  (0, 6, []),
  (0, 6, []),
  (0, 6, []),
  (9, 6, [some 7, some 8, some 9, some 10, none, none]),
  (0, 60, []),
  (0, 60, []),
  (0, 60, []),
  (0, 60, []),
  (5, 8, [some 12, some 17, some 18, none, none, none, none, none]),
  (6, 8, [some 13, some 14, some 15, some 16, none, none, none, none]),
  (0, 6, []),
  (0, 6, []),
  (0, 6, []),
  (0, 6, []),
  (0, 6, []),
  (0, 60, []),
  (8, 11, [some 20, some 21, some 43, some 44, some 63, some 64, some 65, none, none, none, none]),
  (0, 3, []),
  (3, 21, [some 22, some 23, some 24, some 25, some 26, some 27, some 28, some 29, some 30, some 31, some 32, some 33, some 34, some 35, some 36, some 37, some 38, some 39, some 40, some 41, some 42]),
  (0, 13, []),
  (0, 13, []),
  (0, 13, []),
  (0, 13, []),
  (0, 13, []),
  (0, 13, []),
  (0, 13, []),
  (0, 13, []),
  (0, 13, []),
  (0, 13, []),
  (0, 13, []),
  (0, 13, []),
  (0, 13, []),
  (0, 13, []),
  (0, 13, []),
  (0, 13, []),
  (0, 13, []),
  (0, 13, []),
  (0, 13, []),
  (0, 13, []),
  (0, 13, []),
  (0, 21, []),
  (3, 18, [some 45, some 46, some 47, some 48, some 49, some 50, some 51, some 52, some 53, some 54, some 55, some 56, some 57, some 58, some 59, some 60, some 61, some 62]),
  (0, 39, []),
  (0, 39, []),
  (0, 39, []),
  (0, 39, []),
  (0, 39, []),
  (0, 39, []),
  (0, 39, []),
  (0, 39, []),
  (0, 39, []),
  (0, 39, []),
  (0, 39, []),
  (0, 39, []),
  (0, 39, []),
  (0, 39, []),
  (0, 39, []),
  (0, 39, []),
  (0, 39, []),
  (0, 39, []),
  (0, 2556, []),
  (0, 7, []),
  (0, 18, []),
  (10, 3, [some 67, none, none]),
  (0, 6, []),
  (11, 3, [some 69, some 70, none]),
  (0, 8, []),
  (0, 8, []),
  (12, 2, [some 72, none]),
  (6, 8, [some 73, some 74, some 75, some 76, none, none, none, none]),
  (0, 6, []),
  (0, 6, []),
  (0, 6, []),
  (0, 6, []),
  (4, 2, [some 78, some 87]),
  (7, 3, [some 79, some 84, none]),
  (6, 8, [some 80, some 81, some 82, some 83, none, none, none, none]),
  (0, 6, []),
  (0, 6, []),
  (0, 6, []),
  (0, 6, []),
  (11, 3, [some 85, some 86, none]),
  (0, 8, []),
  (0, 8, []),
  (7, 3, [some 88, some 93, none]),
  (6, 8, [some 89, some 90, some 91, some 92, none, none, none, none]),
  (0, 6, []),
  (0, 6, []),
  (0, 6, []),
  (0, 6, []),
  (11, 3, [some 94, some 95, none]),
  (0, 8, []),
  (0, 8, []),
  (14, 38, [none, none, none, none, some 97, some 98, some 99, some 100, some 101, some 102, none, some 103, none, some 104, some 105, some 106, none, none, none, none, some 107, some 108, some 109, none, none, some 110, some 111, some 112, some 113, some 114, some 115, some 116, some 117, some 118, some 119, some 120, none, none]),
  (0, 6, []),
  (0, 6, []),
  (0, 6, []),
  (0, 6, []),
  (0, 8, []),
  (0, 8, []),
  (0, 60, []),
  (0, 60, []),
  (0, 60, []),
  (0, 60, []),
  (0, 100, []),
  (0, 6, []),
  (0, 15, []),
  (0, 3, []),
  (0, 78, []),
  (0, 3, []),
  (0, 234, []),
  (0, 123032, []),
  (0, 3, []),
  (0, 6, []),
  (1, 100, []),
  (1, 100, []),
  (0, 120, []),
  (2, 2, [])]
theorem g_0 : jG[0]? = some (13, 8, [some 1, some 6, some 11, some 19, some 66, some 68, some 71, some 77]) := rfl
theorem g_1 : jG[1]? = some (6, 8, [some 2, some 3, some 4, some 5, none, none, none, none]) := rfl
theorem g_2 : jG[2]? = some (0, 6, []) := rfl
theorem g_3 : jG[3]? = some (0, 6, []) := rfl
theorem g_4 : jG[4]? = some (0, 6, []) := rfl
theorem g_5 : jG[5]? = some (0, 6, []) := rfl
theorem g_6 : jG[6]? = some (9, 6, [some 7, some 8, some 9, some 10, none, none]) := rfl
theorem g_7 : jG[7]? = some (0, 60, []) := rfl
theorem g_8 : jG[8]? = some (0, 60, []) := rfl
theorem g_9 : jG[9]? = some (0, 60, []) := rfl
theorem g_10 : jG[10]? = some (0, 60, []) := rfl
theorem g_11 : jG[11]? = some (5, 8, [some 12, some 17, some 18, none, none, none, none, none]) := rfl
theorem g_12 : jG[12]? = some (6, 8, [some 13, some 14, some 15, some 16, none, none, none, none]) := rfl
theorem g_13 : jG[13]? = some (0, 6, []) := rfl
theorem g_14 : jG[14]? = some (0, 6, []) := rfl
theorem g_15 : jG[15]? = some (0, 6, []) := rfl
theorem g_16 : jG[16]? = some (0, 6, []) := rfl
theorem g_17 : jG[17]? = some (0, 6, []) := rfl
theorem g_18 : jG[18]? = some (0, 60, []) := rfl
theorem g_19 : jG[19]? = some (8, 11, [some 20, some 21, some 43, some 44, some 63, some 64, some 65, none, none, none, none]) := rfl
theorem g_20 : jG[20]? = some (0, 3, []) := rfl
theorem g_21 : jG[21]? = some (3, 21, [some 22, some 23, some 24, some 25, some 26, some 27, some 28, some 29, some 30, some 31, some 32, some 33, some 34, some 35, some 36, some 37, some 38, some 39, some 40, some 41, some 42]) := rfl
theorem g_22 : jG[22]? = some (0, 13, []) := rfl
theorem g_23 : jG[23]? = some (0, 13, []) := rfl
theorem g_24 : jG[24]? = some (0, 13, []) := rfl
theorem g_25 : jG[25]? = some (0, 13, []) := rfl
theorem g_26 : jG[26]? = some (0, 13, []) := rfl
theorem g_27 : jG[27]? = some (0, 13, []) := rfl
theorem g_28 : jG[28]? = some (0, 13, []) := rfl
theorem g_29 : jG[29]? = some (0, 13, []) := rfl
theorem g_30 : jG[30]? = some (0, 13, []) := rfl
theorem g_31 : jG[31]? = some (0, 13, []) := rfl
theorem g_32 : jG[32]? = some (0, 13, []) := rfl
theorem g_33 : jG[33]? = some (0, 13, []) := rfl
theorem g_34 : jG[34]? = some (0, 13, []) := rfl
theorem g_35 : jG[35]? = some (0, 13, []) := rfl
theorem g_36 : jG[36]? = some (0, 13, []) := rfl
theorem g_37 : jG[37]? = some (0, 13, []) := rfl
theorem g_38 : jG[38]? = some (0, 13, []) := rfl
theorem g_39 : jG[39]? = some (0, 13, []) := rfl
theorem g_40 : jG[40]? = some (0, 13, []) := rfl
theorem g_41 : jG[41]? = some (0, 13, []) := rfl
theorem g_42 : jG[42]? = some (0, 13, []) := rfl
theorem g_43 : jG[43]? = some (0, 21, []) := rfl
theorem g_44 : jG[44]? = some (3, 18, [some 45, some 46, some 47, some 48, some 49, some 50, some 51, some 52, some 53, some 54, some 55, some 56, some 57, some 58, some 59, some 60, some 61, some 62]) := rfl
theorem g_45 : jG[45]? = some (0, 39, []) := rfl
theorem g_46 : jG[46]? = some (0, 39, []) := rfl
theorem g_47 : jG[47]? = some (0, 39, []) := rfl
theorem g_48 : jG[48]? = some (0, 39, []) := rfl
theorem g_49 : jG[49]? = some (0, 39, []) := rfl
theorem g_50 : jG[50]? = some (0, 39, []) := rfl
theorem g_51 : jG[51]? = some (0, 39, []) := rfl
theorem g_52 : jG[52]? = some (0, 39, []) := rfl
theorem g_53 : jG[53]? = some (0, 39, []) := rfl
theorem g_54 : jG[54]? = some (0, 39, []) := rfl
theorem g_55 : jG[55]? = some (0, 39, []) := rfl
theorem g_56 : jG[56]? = some (0, 39, []) := rfl
theorem g_57 : jG[57]? = some (0, 39, []) := rfl
theorem g_58 : jG[58]? = some (0, 39, []) := rfl
theorem g_59 : jG[59]? = some (0, 39, []) := rfl
theorem g_60 : jG[60]? = some (0, 39, []) := rfl
theorem g_61 : jG[61]? = some (0, 39, []) := rfl
theorem g_62 : jG[62]? = some (0, 39, []) := rfl
theorem g_63 : jG[63]? = some (0, 2556, []) := rfl
theorem g_64 : jG[64]? = some (0, 7, []) := rfl
theorem g_65 : jG[65]? = some (0, 18, []) := rfl
theorem g_66 : jG[66]? = some (10, 3, [some 67, none, none]) := rfl
theorem g_67 : jG[67]? = some (0, 6, []) := rfl
theorem g_68 : jG[68]? = some (11, 3, [some 69, some 70, none]) := rfl
theorem g_69 : jG[69]? = some (0, 8, []) := rfl
theorem g_70 : jG[70]? = some (0, 8, []) := rfl
theorem g_71 : jG[71]? = some (12, 2, [some 72, none]) := rfl
theorem g_72 : jG[72]? = some (6, 8, [some 73, some 74, some 75, some 76, none, none, none, none]) := rfl
theorem g_73 : jG[73]? = some (0, 6, []) := rfl
theorem g_74 : jG[74]? = some (0, 6, []) := rfl
theorem g_75 : jG[75]? = some (0, 6, []) := rfl
theorem g_76 : jG[76]? = some (0, 6, []) := rfl
theorem g_77 : jG[77]? = some (4, 2, [some 78, some 87]) := rfl
theorem g_78 : jG[78]? = some (7, 3, [some 79, some 84, none]) := rfl
theorem g_79 : jG[79]? = some (6, 8, [some 80, some 81, some 82, some 83, none, none, none, none]) := rfl
theorem g_80 : jG[80]? = some (0, 6, []) := rfl
theorem g_81 : jG[81]? = some (0, 6, []) := rfl
theorem g_82 : jG[82]? = some (0, 6, []) := rfl
theorem g_83 : jG[83]? = some (0, 6, []) := rfl
theorem g_84 : jG[84]? = some (11, 3, [some 85, some 86, none]) := rfl
theorem g_85 : jG[85]? = some (0, 8, []) := rfl
theorem g_86 : jG[86]? = some (0, 8, []) := rfl
theorem g_87 : jG[87]? = some (7, 3, [some 88, some 93, none]) := rfl
theorem g_88 : jG[88]? = some (6, 8, [some 89, some 90, some 91, some 92, none, none, none, none]) := rfl
theorem g_89 : jG[89]? = some (0, 6, []) := rfl
theorem g_90 : jG[90]? = some (0, 6, []) := rfl
theorem g_91 : jG[91]? = some (0, 6, []) := rfl
theorem g_92 : jG[92]? = some (0, 6, []) := rfl
theorem g_93 : jG[93]? = some (11, 3, [some 94, some 95, none]) := rfl
theorem g_94 : jG[94]? = some (0, 8, []) := rfl
theorem g_95 : jG[95]? = some (0, 8, []) := rfl
theorem g_96 : jG[96]? = some (14, 38, [none, none, none, none, some 97, some 98, some 99, some 100, some 101, some 102, none, some 103, none, some 104, some 105, some 106, none, none, none, none, some 107, some 108, some 109, none, none, some 110, some 111, some 112, some 113, some 114, some 115, some 116, some 117, some 118, some 119, some 120, none, none]) := rfl
theorem g_97 : jG[97]? = some (0, 6, []) := rfl
theorem g_98 : jG[98]? = some (0, 6, []) := rfl
theorem g_99 : jG[99]? = some (0, 6, []) := rfl
theorem g_100 : jG[100]? = some (0, 6, []) := rfl
theorem g_101 : jG[101]? = some (0, 8, []) := rfl
theorem g_102 : jG[102]? = some (0, 8, []) := rfl
theorem g_103 : jG[103]? = some (0, 60, []) := rfl
theorem g_104 : jG[104]? = some (0, 60, []) := rfl
theorem g_105 : jG[105]? = some (0, 60, []) := rfl
theorem g_106 : jG[106]? = some (0, 60, []) := rfl
theorem g_107 : jG[107]? = some (0, 100, []) := rfl
theorem g_108 : jG[108]? = some (0, 6, []) := rfl
theorem g_109 : jG[109]? = some (0, 15, []) := rfl
theorem g_110 : jG[110]? = some (0, 3, []) := rfl
theorem g_111 : jG[111]? = some (0, 78, []) := rfl
theorem g_112 : jG[112]? = some (0, 3, []) := rfl
theorem g_113 : jG[113]? = some (0, 234, []) := rfl
theorem g_114 : jG[114]? = some (0, 123032, []) := rfl
theorem g_115 : jG[115]? = some (0, 3, []) := rfl
theorem g_116 : jG[116]? = some (0, 6, []) := rfl
theorem g_117 : jG[117]? = some (1, 100, []) := rfl
theorem g_118 : jG[118]? = some (1, 100, []) := rfl
theorem g_119 : jG[119]? = some (0, 120, []) := rfl
theorem g_120 : jG[120]? = some (2, 2, []) := rfl
def jHi (h : Nat) : Prop := jG[h]? = some (6, 8, [some (h + 1), some (h + 2), some (h + 3), some (h + 4), none, none, none, none]) ∧ jG[h + 1]? = some (0, 6, []) ∧ jG[h + 2]? = some (0, 6, []) ∧ jG[h + 3]? = some (0, 6, []) ∧ jG[h + 4]? = some (0, 6, [])
def jSi (h : Nat) : Prop := jG[h]? = some (11, 3, [some (h + 1), some (h + 2), none]) ∧ jG[h + 1]? = some (0, 8, []) ∧ jG[h + 2]? = some (0, 8, [])
def jIm (h : Nat) : Prop := jG[h]? = some (7, 3, [some (h + 1), some (h + 6), none]) ∧ jHi (h + 1) ∧ jSi (h + 6)
theorem hi_1 : jHi 1 := ⟨rfl, rfl, rfl, rfl, rfl⟩
theorem hi_12 : jHi 12 := ⟨rfl, rfl, rfl, rfl, rfl⟩
theorem hi_72 : jHi 72 := ⟨rfl, rfl, rfl, rfl, rfl⟩
theorem hi_79 : jHi 79 := ⟨rfl, rfl, rfl, rfl, rfl⟩
theorem hi_88 : jHi 88 := ⟨rfl, rfl, rfl, rfl, rfl⟩
theorem si_68 : jSi 68 := ⟨rfl, rfl, rfl⟩
theorem si_84 : jSi 84 := ⟨rfl, rfl, rfl⟩
theorem si_93 : jSi 93 := ⟨rfl, rfl, rfl⟩
theorem im_78 : jIm 78 := ⟨rfl, hi_79, si_84⟩
theorem im_87 : jIm 87 := ⟨rfl, hi_88, si_93⟩
theorem gr_21 {i : Int} (h0 : 0 ≤ i) (h1 : i < 21) : ([some 22, some 23, some 24, some 25, some 26, some 27, some 28, some 29, some 30, some 31, some 32, some 33, some 34, some 35, some 36, some 37, some 38, some 39, some 40, some 41, some 42] : List (Option Nat))[i.toNat]? = some (some (22 + i.toNat)) ∧ jG[22 + i.toNat]? = some (0, 13, []) := by
  have h2 : i.toNat < 21 := by omega
  revert h2
  generalize i.toNat = k
  intro h2
  have hall : ∀ k, k < 21 → ([some 22, some 23, some 24, some 25, some 26, some 27, some 28, some 29, some 30, some 31, some 32, some 33, some 34, some 35, some 36, some 37, some 38, some 39, some 40, some 41, some 42] : List (Option Nat))[k]? = some (some (22 + k)) ∧ jG[22 + k]? = some (0, 13, []) := by decide +kernel
  exact hall k h2
theorem gr_44 {i : Int} (h0 : 0 ≤ i) (h1 : i < 18) : ([some 45, some 46, some 47, some 48, some 49, some 50, some 51, some 52, some 53, some 54, some 55, some 56, some 57, some 58, some 59, some 60, some 61, some 62] : List (Option Nat))[i.toNat]? = some (some (45 + i.toNat)) ∧ jG[45 + i.toNat]? = some (0, 39, []) := by
  have h2 : i.toNat < 18 := by omega
  revert h2
  generalize i.toNat = k
  intro h2
  have hall : ∀ k, k < 18 → ([some 45, some 46, some 47, some 48, some 49, some 50, some 51, some 52, some 53, some 54, some 55, some 56, some 57, some 58, some 59, some 60, some 61, some 62] : List (Option Nat))[k]? = some (some (45 + k)) ∧ jG[45 + k]? = some (0, 39, []) := by decide +kernel
  exact hall k h2
theorem gr_77 {i : Int} (h0 : 0 ≤ i) (h1 : i < 2) : ([some 78, some 87] : List (Option Nat))[i.toNat]? = some (some (78 + 9 * i.toNat)) ∧ jIm (78 + 9 * i.toNat) := by
  have h2 : i.toNat = 0 ∨ i.toNat = 1 := by omega
  rcases h2 with h2 | h2 <;> rw [h2]
  · exact ⟨rfl, im_78⟩
  · exact ⟨rfl, im_87⟩
theorem jc_m6 : jIn (-6) := ⟨by decide, by decide⟩
theorem jc_m5 : jIn (-5) := ⟨by decide, by decide⟩
theorem jc_m4 : jIn (-4) := ⟨by decide, by decide⟩
theorem jc_m3 : jIn (-3) := ⟨by decide, by decide⟩
theorem jc_m2 : jIn (-2) := ⟨by decide, by decide⟩
theorem jc_m1 : jIn (-1) := ⟨by decide, by decide⟩
theorem jc_0 : jIn 0 := ⟨by decide, by decide⟩
theorem jc_1 : jIn 1 := ⟨by decide, by decide⟩
theorem jc_2 : jIn 2 := ⟨by decide, by decide⟩
theorem jc_3 : jIn 3 := ⟨by decide, by decide⟩
theorem jc_4 : jIn 4 := ⟨by decide, by decide⟩
theorem jc_5 : jIn 5 := ⟨by decide, by decide⟩
theorem jc_6 : jIn 6 := ⟨by decide, by decide⟩
theorem jc_7 : jIn 7 := ⟨by decide, by decide⟩
theorem jc_8 : jIn 8 := ⟨by decide, by decide⟩
theorem jc_9 : jIn 9 := ⟨by decide, by decide⟩
theorem jc_10 : jIn 10 := ⟨by decide, by decide⟩
theorem jc_12 : jIn 12 := ⟨by decide, by decide⟩
theorem jc_13 : jIn 13 := ⟨by decide, by decide⟩
theorem jc_14 : jIn 14 := ⟨by decide, by decide⟩
theorem jc_16 : jIn 16 := ⟨by decide, by decide⟩
theorem jc_26 : jIn 26 := ⟨by decide, by decide⟩
theorem jc_27 : jIn 27 := ⟨by decide, by decide⟩
theorem jc_33 : jIn 33 := ⟨by decide, by decide⟩
theorem jc_39 : jIn 39 := ⟨by decide, by decide⟩
theorem jc_40 : jIn 40 := ⟨by decide, by decide⟩
theorem jc_42 : jIn 42 := ⟨by decide, by decide⟩
theorem jc_46 : jIn 46 := ⟨by decide, by decide⟩
theorem jc_60 : jIn 60 := ⟨by decide, by decide⟩
theorem jc_62 : jIn 62 := ⟨by decide, by decide⟩
theorem jc_63 : jIn 63 := ⟨by decide, by decide⟩
theorem jc_65 : jIn 65 := ⟨by decide, by decide⟩
theorem jc_71 : jIn 71 := ⟨by decide, by decide⟩
theorem jc_74 : jIn 74 := ⟨by decide, by decide⟩
theorem jc_75 : jIn 75 := ⟨by decide, by decide⟩
theorem jc_78 : jIn 78 := ⟨by decide, by decide⟩
theorem jc_98 : jIn 98 := ⟨by decide, by decide⟩
theorem jc_99 : jIn 99 := ⟨by decide, by decide⟩
theorem jc_100 : jIn 100 := ⟨by decide, by decide⟩
theorem jc_104 : jIn 104 := ⟨by decide, by decide⟩
theorem jc_120 : jIn 120 := ⟨by decide, by decide⟩
theorem jc_126 : jIn 126 := ⟨by decide, by decide⟩
theorem jc_156 : jIn 156 := ⟨by decide, by decide⟩
theorem jc_200 : jIn 200 := ⟨by decide, by decide⟩
theorem jc_728 : jIn 728 := ⟨by decide, by decide⟩
theorem jc_1000 : jIn 1000 := ⟨by decide, by decide⟩
theorem jc_2556 : jIn 2556 := ⟨by decide, by decide⟩
theorem jc_9999 : jIn 9999 := ⟨by decide, by decide⟩
theorem jc_17576 : jIn 17576 := ⟨by decide, by decide⟩
theorem jb_m6 : (Int8.ofInt (-6)).toInt32 = Int32.ofInt (-6) := by decide +kernel
theorem jb_m5 : (Int8.ofInt (-5)).toInt32 = Int32.ofInt (-5) := by decide +kernel
theorem jb_m4 : (Int8.ofInt (-4)).toInt32 = Int32.ofInt (-4) := by decide +kernel
theorem jb_m3 : (Int8.ofInt (-3)).toInt32 = Int32.ofInt (-3) := by decide +kernel
theorem jb_m2 : (Int8.ofInt (-2)).toInt32 = Int32.ofInt (-2) := by decide +kernel
theorem jb_6 : (Int8.ofInt 6).toInt32 = Int32.ofInt 6 := by decide +kernel
theorem jb_7 : (Int8.ofInt 7).toInt32 = Int32.ofInt 7 := by decide +kernel
theorem jb_8 : (Int8.ofInt 8).toInt32 = Int32.ofInt 8 := by decide +kernel
theorem jb_9 : (Int8.ofInt 9).toInt32 = Int32.ofInt 9 := by decide +kernel
theorem jb_10 : (Int8.ofInt 10).toInt32 = Int32.ofInt 10 := by decide +kernel
theorem jb_12 : (Int8.ofInt 12).toInt32 = Int32.ofInt 12 := by decide +kernel
theorem jb_13 : (Int8.ofInt 13).toInt32 = Int32.ofInt 13 := by decide +kernel
theorem jb_14 : (Int8.ofInt 14).toInt32 = Int32.ofInt 14 := by decide +kernel
theorem jb_16 : (Int8.ofInt 16).toInt32 = Int32.ofInt 16 := by decide +kernel
theorem jb_26 : (Int8.ofInt 26).toInt32 = Int32.ofInt 26 := by decide +kernel
theorem jb_27 : (Int8.ofInt 27).toInt32 = Int32.ofInt 27 := by decide +kernel
theorem jb_33 : (Int8.ofInt 33).toInt32 = Int32.ofInt 33 := by decide +kernel
theorem jb_39 : (Int8.ofInt 39).toInt32 = Int32.ofInt 39 := by decide +kernel
theorem jb_40 : (Int8.ofInt 40).toInt32 = Int32.ofInt 40 := by decide +kernel
theorem jb_42 : (Int8.ofInt 42).toInt32 = Int32.ofInt 42 := by decide +kernel
theorem jb_46 : (Int8.ofInt 46).toInt32 = Int32.ofInt 46 := by decide +kernel
theorem jb_60 : (Int8.ofInt 60).toInt32 = Int32.ofInt 60 := by decide +kernel
theorem jb_62 : (Int8.ofInt 62).toInt32 = Int32.ofInt 62 := by decide +kernel
theorem jb_63 : (Int8.ofInt 63).toInt32 = Int32.ofInt 63 := by decide +kernel
theorem jb_65 : (Int8.ofInt 65).toInt32 = Int32.ofInt 65 := by decide +kernel
theorem jb_71 : (Int8.ofInt 71).toInt32 = Int32.ofInt 71 := by decide +kernel
theorem jb_74 : (Int8.ofInt 74).toInt32 = Int32.ofInt 74 := by decide +kernel
theorem jb_75 : (Int8.ofInt 75).toInt32 = Int32.ofInt 75 := by decide +kernel
theorem jb_78 : (Int8.ofInt 78).toInt32 = Int32.ofInt 78 := by decide +kernel
theorem jb_98 : (Int8.ofInt 98).toInt32 = Int32.ofInt 98 := by decide +kernel
theorem jb_99 : (Int8.ofInt 99).toInt32 = Int32.ofInt 99 := by decide +kernel
theorem jb_100 : (Int8.ofInt 100).toInt32 = Int32.ofInt 100 := by decide +kernel
theorem jb_104 : (Int8.ofInt 104).toInt32 = Int32.ofInt 104 := by decide +kernel
theorem jb_120 : (Int8.ofInt 120).toInt32 = Int32.ofInt 120 := by decide +kernel
theorem jb_126 : (Int8.ofInt 126).toInt32 = Int32.ofInt 126 := by decide +kernel
theorem jsp_156 : (Int16.ofInt 156).toInt32 = Int32.ofInt 156 := by decide +kernel
theorem jsp_200 : (Int16.ofInt 200).toInt32 = Int32.ofInt 200 := by decide +kernel
theorem jsp_728 : (Int16.ofInt 728).toInt32 = Int32.ofInt 728 := by decide +kernel
theorem jsp_1000 : (Int16.ofInt 1000).toInt32 = Int32.ofInt 1000 := by decide +kernel
theorem jsp_2556 : (Int16.ofInt 2556).toInt32 = Int32.ofInt 2556 := by decide +kernel
theorem jsp_9999 : (Int16.ofInt 9999).toInt32 = Int32.ofInt 9999 := by decide +kernel
theorem jsp_17576 : (Int16.ofInt 17576).toInt32 = Int32.ofInt 17576 := by decide +kernel
theorem jlc_0 : jInL 0 := ⟨by decide, by decide⟩
theorem jlv_0 : Int64.ofNat ((0 : Fin 2) : Nat) = Int64.ofInt 0 := by decide +kernel
theorem jlc_1 : jInL 1 := ⟨by decide, by decide⟩
theorem jlv_1 : Int64.ofNat ((1 : Fin 2) : Nat) = Int64.ofInt 1 := by decide +kernel
end

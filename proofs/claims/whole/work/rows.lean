section
-- ===== PART A: goes FIRST, ahead of the names: the tables' words, and 'selects' of the private methods out of them =====
/-- a private method of a class that the tables say can be made, by its rows of tables_1 -/
def lw_okq (q : MethodName × Nat) : Prop := (q.1.cls ≠ "java/lang/invoke/MethodHandle" ∧ q.1.cls ≠ "java/lang/invoke/VarHandle") ∧ Cond.instantiable q.1.cls q.2 ∈ tables_1 ∧ Cond.privateMethod q.1 ∈ tables_1 ∧ Cond.instanceMethod q.1 ∈ tables_1
theorem lw_p0 : lw_okq (⟨"VarnishNight", "finding", "(I)I"⟩, 8) := ⟨⟨by decide +kernel, by decide +kernel⟩, List.mem_of_getElem? (i := 14) (by decide +kernel), List.mem_of_getElem? (i := 130) (by decide +kernel), List.mem_of_getElem? (i := 131) (by decide +kernel)⟩
theorem lw_p1 : lw_okq (⟨"VarnishNight$Gallery", "isSeenByAnother", "(I)Z"⟩, 4) := ⟨⟨by decide +kernel, by decide +kernel⟩, List.mem_of_getElem? (i := 22) (by decide +kernel), List.mem_of_getElem? (i := 174) (by decide +kernel), List.mem_of_getElem? (i := 175) (by decide +kernel)⟩
theorem lw_p2 : lw_okq (⟨"VarnishNight$Gallery", "isAnotherDiscontent", "(I)Z"⟩, 4) := ⟨⟨by decide +kernel, by decide +kernel⟩, List.mem_of_getElem? (i := 22) (by decide +kernel), List.mem_of_getElem? (i := 182) (by decide +kernel), List.mem_of_getElem? (i := 183) (by decide +kernel)⟩
theorem lw_p3 : lw_okq (⟨"VarnishNight", "greatest", "(I)I"⟩, 8) := ⟨⟨by decide +kernel, by decide +kernel⟩, List.mem_of_getElem? (i := 14) (by decide +kernel), List.mem_of_getElem? (i := 246) (by decide +kernel), List.mem_of_getElem? (i := 247) (by decide +kernel)⟩
theorem lw_p4 : lw_okq (⟨"VarnishNight$Gallery", "haveAGo", "(I)V"⟩, 4) := ⟨⟨by decide +kernel, by decide +kernel⟩, List.mem_of_getElem? (i := 22) (by decide +kernel), List.mem_of_getElem? (i := 281) (by decide +kernel), List.mem_of_getElem? (i := 282) (by decide +kernel)⟩
theorem lw_p5 : lw_okq (⟨"VarnishNight$Gallery", "isChangedBy", "(II)Z"⟩, 4) := ⟨⟨by decide +kernel, by decide +kernel⟩, List.mem_of_getElem? (i := 22) (by decide +kernel), List.mem_of_getElem? (i := 286) (by decide +kernel), List.mem_of_getElem? (i := 287) (by decide +kernel)⟩
theorem lw_p6 : lw_okq (⟨"VarnishNight$Gallery", "replace", "(III)Z"⟩, 4) := ⟨⟨by decide +kernel, by decide +kernel⟩, List.mem_of_getElem? (i := 22) (by decide +kernel), List.mem_of_getElem? (i := 293) (by decide +kernel), List.mem_of_getElem? (i := 294) (by decide +kernel)⟩
theorem lw_p7 : lw_okq (⟨"VarnishNight$Gallery", "nearer", "(II)I"⟩, 4) := ⟨⟨by decide +kernel, by decide +kernel⟩, List.mem_of_getElem? (i := 22) (by decide +kernel), List.mem_of_getElem? (i := 297) (by decide +kernel), List.mem_of_getElem? (i := 298) (by decide +kernel)⟩
theorem lw_p8 : lw_okq (⟨"VarnishNight$Gallery", "farther", "(II)I"⟩, 4) := ⟨⟨by decide +kernel, by decide +kernel⟩, List.mem_of_getElem? (i := 22) (by decide +kernel), List.mem_of_getElem? (i := 304) (by decide +kernel), List.mem_of_getElem? (i := 305) (by decide +kernel)⟩
theorem lw_p9 : lw_okq (⟨"VarnishNight", "firstContent", "(I)I"⟩, 8) := ⟨⟨by decide +kernel, by decide +kernel⟩, List.mem_of_getElem? (i := 14) (by decide +kernel), List.mem_of_getElem? (i := 323) (by decide +kernel), List.mem_of_getElem? (i := 324) (by decide +kernel)⟩
theorem lw_p10 : lw_okq (⟨"VarnishNight", "suppose", "(III)V"⟩, 8) := ⟨⟨by decide +kernel, by decide +kernel⟩, List.mem_of_getElem? (i := 14) (by decide +kernel), List.mem_of_getElem? (i := 349) (by decide +kernel), List.mem_of_getElem? (i := 350) (by decide +kernel)⟩
theorem lw_p11 : lw_okq (⟨"VarnishNight", "mostContentWith", "(IIII)I"⟩, 8) := ⟨⟨by decide +kernel, by decide +kernel⟩, List.mem_of_getElem? (i := 14) (by decide +kernel), List.mem_of_getElem? (i := 365) (by decide +kernel), List.mem_of_getElem? (i := 366) (by decide +kernel)⟩
theorem lw_p12 : lw_okq (⟨"VarnishNight", "gatherContentWith", "(I)V"⟩, 8) := ⟨⟨by decide +kernel, by decide +kernel⟩, List.mem_of_getElem? (i := 14) (by decide +kernel), List.mem_of_getElem? (i := 373) (by decide +kernel), List.mem_of_getElem? (i := 374) (by decide +kernel)⟩
theorem lw_p13 : lw_okq (⟨"VarnishNight", "wantsClash", "(II)Z"⟩, 8) := ⟨⟨by decide +kernel, by decide +kernel⟩, List.mem_of_getElem? (i := 14) (by decide +kernel), List.mem_of_getElem? (i := 377) (by decide +kernel), List.mem_of_getElem? (i := 378) (by decide +kernel)⟩
theorem lw_p14 : lw_okq (⟨"VarnishNight$Teller", "advance", "()V"⟩, 7) := ⟨⟨by decide +kernel, by decide +kernel⟩, List.mem_of_getElem? (i := 47) (by decide +kernel), List.mem_of_getElem? (i := 409) (by decide +kernel), List.mem_of_getElem? (i := 410) (by decide +kernel)⟩
theorem lw_p15 : lw_okq (⟨"VarnishNight$Teller", "byteAt", "(I)I"⟩, 7) := ⟨⟨by decide +kernel, by decide +kernel⟩, List.mem_of_getElem? (i := 47) (by decide +kernel), List.mem_of_getElem? (i := 413) (by decide +kernel), List.mem_of_getElem? (i := 414) (by decide +kernel)⟩
def lw_privs_1 : List (MethodName × Nat) := [(⟨"VarnishNight", "finding", "(I)I"⟩, 8), (⟨"VarnishNight$Gallery", "isSeenByAnother", "(I)Z"⟩, 4), (⟨"VarnishNight$Gallery", "isAnotherDiscontent", "(I)Z"⟩, 4), (⟨"VarnishNight", "greatest", "(I)I"⟩, 8), (⟨"VarnishNight$Gallery", "haveAGo", "(I)V"⟩, 4), (⟨"VarnishNight$Gallery", "isChangedBy", "(II)Z"⟩, 4), (⟨"VarnishNight$Gallery", "replace", "(III)Z"⟩, 4), (⟨"VarnishNight$Gallery", "nearer", "(II)I"⟩, 4), (⟨"VarnishNight$Gallery", "farther", "(II)I"⟩, 4), (⟨"VarnishNight", "firstContent", "(I)I"⟩, 8), (⟨"VarnishNight", "suppose", "(III)V"⟩, 8), (⟨"VarnishNight", "mostContentWith", "(IIII)I"⟩, 8), (⟨"VarnishNight", "gatherContentWith", "(I)V"⟩, 8), (⟨"VarnishNight", "wantsClash", "(II)Z"⟩, 8), (⟨"VarnishNight$Teller", "advance", "()V"⟩, 7), (⟨"VarnishNight$Teller", "byteAt", "(I)I"⟩, 7)]
theorem lw_r1 : ∀ q ∈ lw_privs_1, lw_okq q := List.forall_mem_cons.mpr ⟨lw_p0, List.forall_mem_cons.mpr ⟨lw_p1, List.forall_mem_cons.mpr ⟨lw_p2, List.forall_mem_cons.mpr ⟨lw_p3, List.forall_mem_cons.mpr ⟨lw_p4, List.forall_mem_cons.mpr ⟨lw_p5, List.forall_mem_cons.mpr ⟨lw_p6, List.forall_mem_cons.mpr ⟨lw_p7, List.forall_mem_cons.mpr ⟨lw_p8, List.forall_mem_cons.mpr ⟨lw_p9, List.forall_mem_cons.mpr ⟨lw_p10, List.forall_mem_cons.mpr ⟨lw_p11, List.forall_mem_cons.mpr ⟨lw_p12, List.forall_mem_cons.mpr ⟨lw_p13, List.forall_mem_cons.mpr ⟨lw_p14, List.forall_mem_cons.mpr ⟨lw_p15, fun _ h => absurd h List.not_mem_nil⟩⟩⟩⟩⟩⟩⟩⟩⟩⟩⟩⟩⟩⟩⟩⟩
theorem lw_p16 : lw_okq (⟨"VarnishNight$Teller", "isItem", "(LVarnishNight$Gallery;)Z"⟩, 7) := ⟨⟨by decide +kernel, by decide +kernel⟩, List.mem_of_getElem? (i := 47) (by decide +kernel), List.mem_of_getElem? (i := 421) (by decide +kernel), List.mem_of_getElem? (i := 422) (by decide +kernel)⟩
theorem lw_p17 : lw_okq (⟨"VarnishNight$Teller", "kindNamed", "()I"⟩, 7) := ⟨⟨by decide +kernel, by decide +kernel⟩, List.mem_of_getElem? (i := 47) (by decide +kernel), List.mem_of_getElem? (i := 425) (by decide +kernel), List.mem_of_getElem? (i := 426) (by decide +kernel)⟩
theorem lw_p18 : lw_okq (⟨"VarnishNight$Teller", "isWord", "(Ljava/lang/String;)Z"⟩, 7) := ⟨⟨by decide +kernel, by decide +kernel⟩, List.mem_of_getElem? (i := 47) (by decide +kernel), List.mem_of_getElem? (i := 430) (by decide +kernel), List.mem_of_getElem? (i := 431) (by decide +kernel)⟩
theorem lw_p19 : lw_okq (⟨"VarnishNight$Teller", "isFigure", "(LVarnishNight$Gallery;I)Z"⟩, 7) := ⟨⟨by decide +kernel, by decide +kernel⟩, List.mem_of_getElem? (i := 47) (by decide +kernel), List.mem_of_getElem? (i := 487) (by decide +kernel), List.mem_of_getElem? (i := 488) (by decide +kernel)⟩
theorem lw_p20 : lw_okq (⟨"VarnishNight$Teller", "takesNumber", "(I)Z"⟩, 7) := ⟨⟨by decide +kernel, by decide +kernel⟩, List.mem_of_getElem? (i := 47) (by decide +kernel), List.mem_of_getElem? (i := 492) (by decide +kernel), List.mem_of_getElem? (i := 493) (by decide +kernel)⟩
theorem lw_p21 : lw_okq (⟨"VarnishNight$Teller", "isWanting", "(LVarnishNight$Gallery;)Z"⟩, 7) := ⟨⟨by decide +kernel, by decide +kernel⟩, List.mem_of_getElem? (i := 47) (by decide +kernel), List.mem_of_getElem? (i := 501) (by decide +kernel), List.mem_of_getElem? (i := 502) (by decide +kernel)⟩
theorem lw_p22 : lw_okq (⟨"VarnishNight$Teller", "wantNamed", "()I"⟩, 7) := ⟨⟨by decide +kernel, by decide +kernel⟩, List.mem_of_getElem? (i := 47) (by decide +kernel), List.mem_of_getElem? (i := 505) (by decide +kernel), List.mem_of_getElem? (i := 506) (by decide +kernel)⟩
theorem lw_p23 : lw_okq (⟨"VarnishNight$Teller", "isLetting", "(LVarnishNight$Gallery;I)Z"⟩, 7) := ⟨⟨by decide +kernel, by decide +kernel⟩, List.mem_of_getElem? (i := 47) (by decide +kernel), List.mem_of_getElem? (i := 514) (by decide +kernel), List.mem_of_getElem? (i := 515) (by decide +kernel)⟩
theorem lw_p24 : lw_okq (⟨"VarnishNight", "sheetAt", "(I)LVarnishNight$Sheet;"⟩, 8) := ⟨⟨by decide +kernel, by decide +kernel⟩, List.mem_of_getElem? (i := 14) (by decide +kernel), List.mem_of_getElem? (i := 525) (by decide +kernel), List.mem_of_getElem? (i := 526) (by decide +kernel)⟩
theorem lw_p25 : lw_okq (⟨"VarnishNight$Sheet", "lowest", "(J)J"⟩, 3) := ⟨⟨by decide +kernel, by decide +kernel⟩, List.mem_of_getElem? (i := 77) (by decide +kernel), List.mem_of_getElem? (i := 551) (by decide +kernel), List.mem_of_getElem? (i := 552) (by decide +kernel)⟩
theorem lw_p26 : lw_okq (⟨"VarnishNight", "trialGoesAs", "(LVarnishNight$Sheet;I)Z"⟩, 8) := ⟨⟨by decide +kernel, by decide +kernel⟩, List.mem_of_getElem? (i := 14) (by decide +kernel), List.mem_of_getElem? (i := 581) (by decide +kernel), List.mem_of_getElem? (i := 582) (by decide +kernel)⟩
theorem lw_p27 : lw_okq (⟨"VarnishNightModel", "becomes", "(II)I"⟩, 17) := ⟨⟨by decide +kernel, by decide +kernel⟩, List.mem_of_getElem? (i := 605) (by decide +kernel), List.mem_of_getElem? (i := 671) (by decide +kernel), List.mem_of_getElem? (i := 672) (by decide +kernel)⟩
theorem lw_p28 : lw_okq (⟨"VarnishNightModel", "finds", "(I)I"⟩, 17) := ⟨⟨by decide +kernel, by decide +kernel⟩, List.mem_of_getElem? (i := 605) (by decide +kernel), List.mem_of_getElem? (i := 676) (by decide +kernel), List.mem_of_getElem? (i := 677) (by decide +kernel)⟩
theorem lw_p29 : lw_okq (⟨"VarnishNightModel", "ofNight", "()I"⟩, 17) := ⟨⟨by decide +kernel, by decide +kernel⟩, List.mem_of_getElem? (i := 605) (by decide +kernel), List.mem_of_getElem? (i := 684) (by decide +kernel), List.mem_of_getElem? (i := 685) (by decide +kernel)⟩
theorem lw_p30 : lw_okq (⟨"VarnishNightModel", "isTacky", "()Z"⟩, 17) := ⟨⟨by decide +kernel, by decide +kernel⟩, List.mem_of_getElem? (i := 605) (by decide +kernel), List.mem_of_getElem? (i := 688) (by decide +kernel), List.mem_of_getElem? (i := 689) (by decide +kernel)⟩
theorem lw_p31 : lw_okq (⟨"VarnishNightModel", "content", "()I"⟩, 17) := ⟨⟨by decide +kernel, by decide +kernel⟩, List.mem_of_getElem? (i := 605) (by decide +kernel), List.mem_of_getElem? (i := 692) (by decide +kernel), List.mem_of_getElem? (i := 693) (by decide +kernel)⟩
def lw_privs_2 : List (MethodName × Nat) := [(⟨"VarnishNight$Teller", "isItem", "(LVarnishNight$Gallery;)Z"⟩, 7), (⟨"VarnishNight$Teller", "kindNamed", "()I"⟩, 7), (⟨"VarnishNight$Teller", "isWord", "(Ljava/lang/String;)Z"⟩, 7), (⟨"VarnishNight$Teller", "isFigure", "(LVarnishNight$Gallery;I)Z"⟩, 7), (⟨"VarnishNight$Teller", "takesNumber", "(I)Z"⟩, 7), (⟨"VarnishNight$Teller", "isWanting", "(LVarnishNight$Gallery;)Z"⟩, 7), (⟨"VarnishNight$Teller", "wantNamed", "()I"⟩, 7), (⟨"VarnishNight$Teller", "isLetting", "(LVarnishNight$Gallery;I)Z"⟩, 7), (⟨"VarnishNight", "sheetAt", "(I)LVarnishNight$Sheet;"⟩, 8), (⟨"VarnishNight$Sheet", "lowest", "(J)J"⟩, 3), (⟨"VarnishNight", "trialGoesAs", "(LVarnishNight$Sheet;I)Z"⟩, 8), (⟨"VarnishNightModel", "becomes", "(II)I"⟩, 17), (⟨"VarnishNightModel", "finds", "(I)I"⟩, 17), (⟨"VarnishNightModel", "ofNight", "()I"⟩, 17), (⟨"VarnishNightModel", "isTacky", "()Z"⟩, 17), (⟨"VarnishNightModel", "content", "()I"⟩, 17)]
theorem lw_r2 : ∀ q ∈ lw_privs_2, lw_okq q := List.forall_mem_cons.mpr ⟨lw_p16, List.forall_mem_cons.mpr ⟨lw_p17, List.forall_mem_cons.mpr ⟨lw_p18, List.forall_mem_cons.mpr ⟨lw_p19, List.forall_mem_cons.mpr ⟨lw_p20, List.forall_mem_cons.mpr ⟨lw_p21, List.forall_mem_cons.mpr ⟨lw_p22, List.forall_mem_cons.mpr ⟨lw_p23, List.forall_mem_cons.mpr ⟨lw_p24, List.forall_mem_cons.mpr ⟨lw_p25, List.forall_mem_cons.mpr ⟨lw_p26, List.forall_mem_cons.mpr ⟨lw_p27, List.forall_mem_cons.mpr ⟨lw_p28, List.forall_mem_cons.mpr ⟨lw_p29, List.forall_mem_cons.mpr ⟨lw_p30, List.forall_mem_cons.mpr ⟨lw_p31, fun _ h => absurd h List.not_mem_nil⟩⟩⟩⟩⟩⟩⟩⟩⟩⟩⟩⟩⟩⟩⟩⟩
theorem lw_p32 : lw_okq (⟨"VarnishNightModel", "isContent", "(I)Z"⟩, 17) := ⟨⟨by decide +kernel, by decide +kernel⟩, List.mem_of_getElem? (i := 605) (by decide +kernel), List.mem_of_getElem? (i := 696) (by decide +kernel), List.mem_of_getElem? (i := 697) (by decide +kernel)⟩
theorem lw_p33 : lw_okq (⟨"VarnishNightModel", "its", "(II)I"⟩, 17) := ⟨⟨by decide +kernel, by decide +kernel⟩, List.mem_of_getElem? (i := 605) (by decide +kernel), List.mem_of_getElem? (i := 700) (by decide +kernel), List.mem_of_getElem? (i := 701) (by decide +kernel)⟩
theorem lw_p34 : lw_okq (⟨"VarnishNightModel", "isWithWhom", "(I)Z"⟩, 17) := ⟨⟨by decide +kernel, by decide +kernel⟩, List.mem_of_getElem? (i := 605) (by decide +kernel), List.mem_of_getElem? (i := 707) (by decide +kernel), List.mem_of_getElem? (i := 708) (by decide +kernel)⟩
theorem lw_p35 : lw_okq (⟨"VarnishNightModel", "isBeside", "(II)Z"⟩, 17) := ⟨⟨by decide +kernel, by decide +kernel⟩, List.mem_of_getElem? (i := 605) (by decide +kernel), List.mem_of_getElem? (i := 711) (by decide +kernel), List.mem_of_getElem? (i := 712) (by decide +kernel)⟩
theorem lw_p36 : lw_okq (⟨"VarnishNightModel", "apart", "(II)I"⟩, 17) := ⟨⟨by decide +kernel, by decide +kernel⟩, List.mem_of_getElem? (i := 605) (by decide +kernel), List.mem_of_getElem? (i := 715) (by decide +kernel), List.mem_of_getElem? (i := 716) (by decide +kernel)⟩
theorem lw_p37 : lw_okq (⟨"VarnishNightModel", "waiting", "()I"⟩, 17) := ⟨⟨by decide +kernel, by decide +kernel⟩, List.mem_of_getElem? (i := 605) (by decide +kernel), List.mem_of_getElem? (i := 719) (by decide +kernel), List.mem_of_getElem? (i := 720) (by decide +kernel)⟩
theorem lw_p38 : lw_okq (⟨"VarnishNightModel", "isWaiting", "(I)Z"⟩, 17) := ⟨⟨by decide +kernel, by decide +kernel⟩, List.mem_of_getElem? (i := 605) (by decide +kernel), List.mem_of_getElem? (i := 723) (by decide +kernel), List.mem_of_getElem? (i := 724) (by decide +kernel)⟩
theorem lw_p39 : lw_okq (⟨"VarnishNightModel", "lampsOn", "(I)I"⟩, 17) := ⟨⟨by decide +kernel, by decide +kernel⟩, List.mem_of_getElem? (i := 605) (by decide +kernel), List.mem_of_getElem? (i := 727) (by decide +kernel), List.mem_of_getElem? (i := 728) (by decide +kernel)⟩
theorem lw_p40 : lw_okq (⟨"VarnishNightModel", "isAnyOtherCross", "(I)Z"⟩, 17) := ⟨⟨by decide +kernel, by decide +kernel⟩, List.mem_of_getElem? (i := 605) (by decide +kernel), List.mem_of_getElem? (i := 731) (by decide +kernel), List.mem_of_getElem? (i := 732) (by decide +kernel)⟩
theorem lw_p41 : lw_okq (⟨"VarnishNightModel", "seenOnes", "()I"⟩, 17) := ⟨⟨by decide +kernel, by decide +kernel⟩, List.mem_of_getElem? (i := 605) (by decide +kernel), List.mem_of_getElem? (i := 735) (by decide +kernel), List.mem_of_getElem? (i := 736) (by decide +kernel)⟩
theorem lw_p42 : lw_okq (⟨"VarnishNightModel", "outOnes", "()I"⟩, 17) := ⟨⟨by decide +kernel, by decide +kernel⟩, List.mem_of_getElem? (i := 605) (by decide +kernel), List.mem_of_getElem? (i := 739) (by decide +kernel), List.mem_of_getElem? (i := 740) (by decide +kernel)⟩
theorem lw_p43 : lw_okq (⟨"VarnishNightModel", "together", "(I)I"⟩, 17) := ⟨⟨by decide +kernel, by decide +kernel⟩, List.mem_of_getElem? (i := 605) (by decide +kernel), List.mem_of_getElem? (i := 743) (by decide +kernel), List.mem_of_getElem? (i := 744) (by decide +kernel)⟩
theorem lw_p44 : lw_okq (⟨"VarnishNightModel", "adds", "(III)I"⟩, 17) := ⟨⟨by decide +kernel, by decide +kernel⟩, List.mem_of_getElem? (i := 605) (by decide +kernel), List.mem_of_getElem? (i := 762) (by decide +kernel), List.mem_of_getElem? (i := 763) (by decide +kernel)⟩
theorem lw_p45 : lw_okq (⟨"VarnishNightModel", "isFigure", "(I)Z"⟩, 17) := ⟨⟨by decide +kernel, by decide +kernel⟩, List.mem_of_getElem? (i := 605) (by decide +kernel), List.mem_of_getElem? (i := 770) (by decide +kernel), List.mem_of_getElem? (i := 771) (by decide +kernel)⟩
theorem lw_p46 : lw_okq (⟨"VarnishNightModel", "rubsOf", "(I)I"⟩, 17) := ⟨⟨by decide +kernel, by decide +kernel⟩, List.mem_of_getElem? (i := 605) (by decide +kernel), List.mem_of_getElem? (i := 775) (by decide +kernel), List.mem_of_getElem? (i := 776) (by decide +kernel)⟩
theorem lw_p47 : lw_okq (⟨"VarnishNightModel", "beside", "(I)I"⟩, 17) := ⟨⟨by decide +kernel, by decide +kernel⟩, List.mem_of_getElem? (i := 605) (by decide +kernel), List.mem_of_getElem? (i := 779) (by decide +kernel), List.mem_of_getElem? (i := 780) (by decide +kernel)⟩
def lw_privs_3 : List (MethodName × Nat) := [(⟨"VarnishNightModel", "isContent", "(I)Z"⟩, 17), (⟨"VarnishNightModel", "its", "(II)I"⟩, 17), (⟨"VarnishNightModel", "isWithWhom", "(I)Z"⟩, 17), (⟨"VarnishNightModel", "isBeside", "(II)Z"⟩, 17), (⟨"VarnishNightModel", "apart", "(II)I"⟩, 17), (⟨"VarnishNightModel", "waiting", "()I"⟩, 17), (⟨"VarnishNightModel", "isWaiting", "(I)Z"⟩, 17), (⟨"VarnishNightModel", "lampsOn", "(I)I"⟩, 17), (⟨"VarnishNightModel", "isAnyOtherCross", "(I)Z"⟩, 17), (⟨"VarnishNightModel", "seenOnes", "()I"⟩, 17), (⟨"VarnishNightModel", "outOnes", "()I"⟩, 17), (⟨"VarnishNightModel", "together", "(I)I"⟩, 17), (⟨"VarnishNightModel", "adds", "(III)I"⟩, 17), (⟨"VarnishNightModel", "isFigure", "(I)Z"⟩, 17), (⟨"VarnishNightModel", "rubsOf", "(I)I"⟩, 17), (⟨"VarnishNightModel", "beside", "(I)I"⟩, 17)]
theorem lw_r3 : ∀ q ∈ lw_privs_3, lw_okq q := List.forall_mem_cons.mpr ⟨lw_p32, List.forall_mem_cons.mpr ⟨lw_p33, List.forall_mem_cons.mpr ⟨lw_p34, List.forall_mem_cons.mpr ⟨lw_p35, List.forall_mem_cons.mpr ⟨lw_p36, List.forall_mem_cons.mpr ⟨lw_p37, List.forall_mem_cons.mpr ⟨lw_p38, List.forall_mem_cons.mpr ⟨lw_p39, List.forall_mem_cons.mpr ⟨lw_p40, List.forall_mem_cons.mpr ⟨lw_p41, List.forall_mem_cons.mpr ⟨lw_p42, List.forall_mem_cons.mpr ⟨lw_p43, List.forall_mem_cons.mpr ⟨lw_p44, List.forall_mem_cons.mpr ⟨lw_p45, List.forall_mem_cons.mpr ⟨lw_p46, List.forall_mem_cons.mpr ⟨lw_p47, fun _ h => absurd h List.not_mem_nil⟩⟩⟩⟩⟩⟩⟩⟩⟩⟩⟩⟩⟩⟩⟩⟩
theorem lw_p48 : lw_okq (⟨"VarnishNightModel", "isSet", "(II)Z"⟩, 17) := ⟨⟨by decide +kernel, by decide +kernel⟩, List.mem_of_getElem? (i := 605) (by decide +kernel), List.mem_of_getElem? (i := 787) (by decide +kernel), List.mem_of_getElem? (i := 788) (by decide +kernel)⟩
theorem lw_p49 : lw_okq (⟨"VarnishNightModel", "hoursGo", "(I)V"⟩, 17) := ⟨⟨by decide +kernel, by decide +kernel⟩, List.mem_of_getElem? (i := 605) (by decide +kernel), List.mem_of_getElem? (i := 817) (by decide +kernel), List.mem_of_getElem? (i := 818) (by decide +kernel)⟩
theorem lw_p50 : lw_okq (⟨"VarnishNightModel", "hour", "()V"⟩, 17) := ⟨⟨by decide +kernel, by decide +kernel⟩, List.mem_of_getElem? (i := 605) (by decide +kernel), List.mem_of_getElem? (i := 821) (by decide +kernel), List.mem_of_getElem? (i := 822) (by decide +kernel)⟩
theorem lw_p51 : lw_okq (⟨"VarnishNightModel", "works", "(I)V"⟩, 17) := ⟨⟨by decide +kernel, by decide +kernel⟩, List.mem_of_getElem? (i := 605) (by decide +kernel), List.mem_of_getElem? (i := 825) (by decide +kernel), List.mem_of_getElem? (i := 826) (by decide +kernel)⟩
theorem lw_p52 : lw_okq (⟨"VarnishNightModel", "columnBy", "(II)I"⟩, 17) := ⟨⟨by decide +kernel, by decide +kernel⟩, List.mem_of_getElem? (i := 605) (by decide +kernel), List.mem_of_getElem? (i := 832) (by decide +kernel), List.mem_of_getElem? (i := 833) (by decide +kernel)⟩
theorem lw_p53 : lw_okq (⟨"VarnishNightModel", "behind", "(II)I"⟩, 17) := ⟨⟨by decide +kernel, by decide +kernel⟩, List.mem_of_getElem? (i := 605) (by decide +kernel), List.mem_of_getElem? (i := 844) (by decide +kernel), List.mem_of_getElem? (i := 845) (by decide +kernel)⟩
theorem lw_p54 : lw_okq (⟨"VarnishNightModel", "laysAside", "()V"⟩, 17) := ⟨⟨by decide +kernel, by decide +kernel⟩, List.mem_of_getElem? (i := 605) (by decide +kernel), List.mem_of_getElem? (i := 848) (by decide +kernel), List.mem_of_getElem? (i := 849) (by decide +kernel)⟩
theorem lw_p55 : lw_okq (⟨"VarnishNightModel", "takesBack", "(I)I"⟩, 17) := ⟨⟨by decide +kernel, by decide +kernel⟩, List.mem_of_getElem? (i := 605) (by decide +kernel), List.mem_of_getElem? (i := 852) (by decide +kernel), List.mem_of_getElem? (i := 853) (by decide +kernel)⟩
theorem lw_p56 : lw_okq (⟨"VarnishNightModel", "toldAt", "(I)I"⟩, 17) := ⟨⟨by decide +kernel, by decide +kernel⟩, List.mem_of_getElem? (i := 605) (by decide +kernel), List.mem_of_getElem? (i := 860) (by decide +kernel), List.mem_of_getElem? (i := 861) (by decide +kernel)⟩
theorem lw_p57 : lw_okq (⟨"VarnishNightModel", "contentMany", "()I"⟩, 17) := ⟨⟨by decide +kernel, by decide +kernel⟩, List.mem_of_getElem? (i := 605) (by decide +kernel), List.mem_of_getElem? (i := 869) (by decide +kernel), List.mem_of_getElem? (i := 870) (by decide +kernel)⟩
theorem lw_p58 : lw_okq (⟨"VarnishNightModel", "manyBehind", "(I)I"⟩, 17) := ⟨⟨by decide +kernel, by decide +kernel⟩, List.mem_of_getElem? (i := 605) (by decide +kernel), List.mem_of_getElem? (i := 877) (by decide +kernel), List.mem_of_getElem? (i := 878) (by decide +kernel)⟩
theorem lw_p59 : lw_okq (⟨"VarnishNightModel", "mostBy", "(III)I"⟩, 17) := ⟨⟨by decide +kernel, by decide +kernel⟩, List.mem_of_getElem? (i := 605) (by decide +kernel), List.mem_of_getElem? (i := 902) (by decide +kernel), List.mem_of_getElem? (i := 903) (by decide +kernel)⟩
theorem lw_p60 : lw_okq (⟨"VarnishNightModel", "isClash", "(III)Z"⟩, 17) := ⟨⟨by decide +kernel, by decide +kernel⟩, List.mem_of_getElem? (i := 605) (by decide +kernel), List.mem_of_getElem? (i := 910) (by decide +kernel), List.mem_of_getElem? (i := 911) (by decide +kernel)⟩
theorem lw_p61 : lw_okq (⟨"VarnishNightModel", "saves", "()V"⟩, 17) := ⟨⟨by decide +kernel, by decide +kernel⟩, List.mem_of_getElem? (i := 605) (by decide +kernel), List.mem_of_getElem? (i := 934) (by decide +kernel), List.mem_of_getElem? (i := 935) (by decide +kernel)⟩
theorem lw_p62 : lw_okq (⟨"VarnishNightModel", "token", "()V"⟩, 17) := ⟨⟨by decide +kernel, by decide +kernel⟩, List.mem_of_getElem? (i := 605) (by decide +kernel), List.mem_of_getElem? (i := 938) (by decide +kernel), List.mem_of_getElem? (i := 939) (by decide +kernel)⟩
theorem lw_p63 : lw_okq (⟨"VarnishNightModel", "byteAt", "(I)I"⟩, 17) := ⟨⟨by decide +kernel, by decide +kernel⟩, List.mem_of_getElem? (i := 605) (by decide +kernel), List.mem_of_getElem? (i := 942) (by decide +kernel), List.mem_of_getElem? (i := 943) (by decide +kernel)⟩
def lw_privs_4 : List (MethodName × Nat) := [(⟨"VarnishNightModel", "isSet", "(II)Z"⟩, 17), (⟨"VarnishNightModel", "hoursGo", "(I)V"⟩, 17), (⟨"VarnishNightModel", "hour", "()V"⟩, 17), (⟨"VarnishNightModel", "works", "(I)V"⟩, 17), (⟨"VarnishNightModel", "columnBy", "(II)I"⟩, 17), (⟨"VarnishNightModel", "behind", "(II)I"⟩, 17), (⟨"VarnishNightModel", "laysAside", "()V"⟩, 17), (⟨"VarnishNightModel", "takesBack", "(I)I"⟩, 17), (⟨"VarnishNightModel", "toldAt", "(I)I"⟩, 17), (⟨"VarnishNightModel", "contentMany", "()I"⟩, 17), (⟨"VarnishNightModel", "manyBehind", "(I)I"⟩, 17), (⟨"VarnishNightModel", "mostBy", "(III)I"⟩, 17), (⟨"VarnishNightModel", "isClash", "(III)Z"⟩, 17), (⟨"VarnishNightModel", "saves", "()V"⟩, 17), (⟨"VarnishNightModel", "token", "()V"⟩, 17), (⟨"VarnishNightModel", "byteAt", "(I)I"⟩, 17)]
theorem lw_r4 : ∀ q ∈ lw_privs_4, lw_okq q := List.forall_mem_cons.mpr ⟨lw_p48, List.forall_mem_cons.mpr ⟨lw_p49, List.forall_mem_cons.mpr ⟨lw_p50, List.forall_mem_cons.mpr ⟨lw_p51, List.forall_mem_cons.mpr ⟨lw_p52, List.forall_mem_cons.mpr ⟨lw_p53, List.forall_mem_cons.mpr ⟨lw_p54, List.forall_mem_cons.mpr ⟨lw_p55, List.forall_mem_cons.mpr ⟨lw_p56, List.forall_mem_cons.mpr ⟨lw_p57, List.forall_mem_cons.mpr ⟨lw_p58, List.forall_mem_cons.mpr ⟨lw_p59, List.forall_mem_cons.mpr ⟨lw_p60, List.forall_mem_cons.mpr ⟨lw_p61, List.forall_mem_cons.mpr ⟨lw_p62, List.forall_mem_cons.mpr ⟨lw_p63, fun _ h => absurd h List.not_mem_nil⟩⟩⟩⟩⟩⟩⟩⟩⟩⟩⟩⟩⟩⟩⟩⟩
theorem lw_p64 : lw_okq (⟨"VarnishNightModel", "item", "()V"⟩, 17) := ⟨⟨by decide +kernel, by decide +kernel⟩, List.mem_of_getElem? (i := 605) (by decide +kernel), List.mem_of_getElem? (i := 956) (by decide +kernel), List.mem_of_getElem? (i := 957) (by decide +kernel)⟩
theorem lw_p65 : lw_okq (⟨"VarnishNightModel", "kindHere", "()I"⟩, 17) := ⟨⟨by decide +kernel, by decide +kernel⟩, List.mem_of_getElem? (i := 605) (by decide +kernel), List.mem_of_getElem? (i := 960) (by decide +kernel), List.mem_of_getElem? (i := 961) (by decide +kernel)⟩
theorem lw_p66 : lw_okq (⟨"VarnishNightModel", "word", "()J"⟩, 17) := ⟨⟨by decide +kernel, by decide +kernel⟩, List.mem_of_getElem? (i := 605) (by decide +kernel), List.mem_of_getElem? (i := 964) (by decide +kernel), List.mem_of_getElem? (i := 965) (by decide +kernel)⟩
theorem lw_p67 : lw_okq (⟨"VarnishNightModel", "figureItem", "(I)V"⟩, 17) := ⟨⟨by decide +kernel, by decide +kernel⟩, List.mem_of_getElem? (i := 605) (by decide +kernel), List.mem_of_getElem? (i := 976) (by decide +kernel), List.mem_of_getElem? (i := 977) (by decide +kernel)⟩
theorem lw_p68 : lw_okq (⟨"VarnishNightModel", "must", "(Z)V"⟩, 17) := ⟨⟨by decide +kernel, by decide +kernel⟩, List.mem_of_getElem? (i := 605) (by decide +kernel), List.mem_of_getElem? (i := 980) (by decide +kernel), List.mem_of_getElem? (i := 981) (by decide +kernel)⟩
theorem lw_p69 : lw_okq (⟨"VarnishNightModel", "number", "(II)V"⟩, 17) := ⟨⟨by decide +kernel, by decide +kernel⟩, List.mem_of_getElem? (i := 605) (by decide +kernel), List.mem_of_getElem? (i := 984) (by decide +kernel), List.mem_of_getElem? (i := 985) (by decide +kernel)⟩
theorem lw_p70 : lw_okq (⟨"VarnishNightModel", "wantsItem", "()V"⟩, 17) := ⟨⟨by decide +kernel, by decide +kernel⟩, List.mem_of_getElem? (i := 605) (by decide +kernel), List.mem_of_getElem? (i := 991) (by decide +kernel), List.mem_of_getElem? (i := 992) (by decide +kernel)⟩
theorem lw_p71 : lw_okq (⟨"VarnishNightModel", "wantHere", "()I"⟩, 17) := ⟨⟨by decide +kernel, by decide +kernel⟩, List.mem_of_getElem? (i := 605) (by decide +kernel), List.mem_of_getElem? (i := 995) (by decide +kernel), List.mem_of_getElem? (i := 996) (by decide +kernel)⟩
theorem lw_p72 : lw_okq (⟨"VarnishNightModel", "outItem", "(I)V"⟩, 17) := ⟨⟨by decide +kernel, by decide +kernel⟩, List.mem_of_getElem? (i := 605) (by decide +kernel), List.mem_of_getElem? (i := 1005) (by decide +kernel), List.mem_of_getElem? (i := 1006) (by decide +kernel)⟩
theorem lw_p73 : lw_okq (⟨"VarnishNightModel", "tackyItem", "()V"⟩, 17) := ⟨⟨by decide +kernel, by decide +kernel⟩, List.mem_of_getElem? (i := 605) (by decide +kernel), List.mem_of_getElem? (i := 1010) (by decide +kernel), List.mem_of_getElem? (i := 1011) (by decide +kernel)⟩
theorem lw_p74 : lw_okq (⟨"VarnishNightModel", "putsBack", "()V"⟩, 17) := ⟨⟨by decide +kernel, by decide +kernel⟩, List.mem_of_getElem? (i := 605) (by decide +kernel), List.mem_of_getElem? (i := 1014) (by decide +kernel), List.mem_of_getElem? (i := 1015) (by decide +kernel)⟩
theorem lw_p75 : lw_okq (⟨"VarnishNightModel", "wrongSheet", "(I)I"⟩, 17) := ⟨⟨by decide +kernel, by decide +kernel⟩, List.mem_of_getElem? (i := 605) (by decide +kernel), List.mem_of_getElem? (i := 1030) (by decide +kernel), List.mem_of_getElem? (i := 1031) (by decide +kernel)⟩
theorem lw_p76 : lw_okq (⟨"VarnishNightModel", "booked", "(I)I"⟩, 17) := ⟨⟨by decide +kernel, by decide +kernel⟩, List.mem_of_getElem? (i := 605) (by decide +kernel), List.mem_of_getElem? (i := 1050) (by decide +kernel), List.mem_of_getElem? (i := 1051) (by decide +kernel)⟩
theorem lw_p77 : lw_okq (⟨"VarnishNightModel", "isBook", "(II)Z"⟩, 17) := ⟨⟨by decide +kernel, by decide +kernel⟩, List.mem_of_getElem? (i := 605) (by decide +kernel), List.mem_of_getElem? (i := 1058) (by decide +kernel), List.mem_of_getElem? (i := 1059) (by decide +kernel)⟩
def lw_privs_5 : List (MethodName × Nat) := [(⟨"VarnishNightModel", "item", "()V"⟩, 17), (⟨"VarnishNightModel", "kindHere", "()I"⟩, 17), (⟨"VarnishNightModel", "word", "()J"⟩, 17), (⟨"VarnishNightModel", "figureItem", "(I)V"⟩, 17), (⟨"VarnishNightModel", "must", "(Z)V"⟩, 17), (⟨"VarnishNightModel", "number", "(II)V"⟩, 17), (⟨"VarnishNightModel", "wantsItem", "()V"⟩, 17), (⟨"VarnishNightModel", "wantHere", "()I"⟩, 17), (⟨"VarnishNightModel", "outItem", "(I)V"⟩, 17), (⟨"VarnishNightModel", "tackyItem", "()V"⟩, 17), (⟨"VarnishNightModel", "putsBack", "()V"⟩, 17), (⟨"VarnishNightModel", "wrongSheet", "(I)I"⟩, 17), (⟨"VarnishNightModel", "booked", "(I)I"⟩, 17), (⟨"VarnishNightModel", "isBook", "(II)Z"⟩, 17)]
theorem lw_r5 : ∀ q ∈ lw_privs_5, lw_okq q := List.forall_mem_cons.mpr ⟨lw_p64, List.forall_mem_cons.mpr ⟨lw_p65, List.forall_mem_cons.mpr ⟨lw_p66, List.forall_mem_cons.mpr ⟨lw_p67, List.forall_mem_cons.mpr ⟨lw_p68, List.forall_mem_cons.mpr ⟨lw_p69, List.forall_mem_cons.mpr ⟨lw_p70, List.forall_mem_cons.mpr ⟨lw_p71, List.forall_mem_cons.mpr ⟨lw_p72, List.forall_mem_cons.mpr ⟨lw_p73, List.forall_mem_cons.mpr ⟨lw_p74, List.forall_mem_cons.mpr ⟨lw_p75, List.forall_mem_cons.mpr ⟨lw_p76, List.forall_mem_cons.mpr ⟨lw_p77, fun _ h => absurd h List.not_mem_nil⟩⟩⟩⟩⟩⟩⟩⟩⟩⟩⟩⟩⟩⟩
def lw_privs : List (MethodName × Nat) := lw_privs_1 ++ (lw_privs_2 ++ (lw_privs_3 ++ (lw_privs_4 ++ (lw_privs_5))))
def lw_tbl : List Cond := k2_sels lw_privs ++ tables_1
theorem lw_privs_ok : ∀ q ∈ lw_privs, lw_okq q := by
  show ∀ q ∈ lw_privs_1 ++ (lw_privs_2 ++ (lw_privs_3 ++ (lw_privs_4 ++ (lw_privs_5)))), lw_okq q
  exact List.forall_mem_append.mpr ⟨lw_r1, List.forall_mem_append.mpr ⟨lw_r2, List.forall_mem_append.mpr ⟨lw_r3, List.forall_mem_append.mpr ⟨lw_r4, lw_r5⟩⟩⟩⟩
-- ===== end of PART A; then your names; then what follows =====
end
section
def RX0 : String := "VarnishNight$Gallery"
def TX0 : u_T := fun k => match k with
  | 0 => ("VarnishNight$Gallery", "hour", "I", false)
  | 1 => ("VarnishNight$Gallery", "tackyFrom", "I", false)
  | 2 => ("VarnishNight$Gallery", "figures", "I", false)
  | _ => ("VarnishNight$Gallery", "cells", "[I", true)
def tyX0 : Nat → FieldType := fun k => match k with
  | 0 => .int
  | 1 => .int
  | 2 => .int
  | _ => .array .int
abbrev wsX00 : List Cond := u_ws RX0 TX0 4
theorem nmX0 : ∀ a, a < 4 → ∀ b, b < 4 → a ≠ b → (TX0 a).2.1 ≠ (TX0 b).2.1 := by decide +kernel
theorem tyX0_ok : ∀ k, k < 4 → parseFieldDescriptor (TX0 k).2.2.1 = some (tyX0 k) := by decide +kernel
abbrev cX0_init : ByteArray := prog_2_method_1_code
def yX0_init : MethodName := ⟨RX0, "<init>", "()V"⟩
abbrev cX0_become : ByteArray := prog_2_method_2_code
def yX0_become : MethodName := ⟨RX0, "become", "(LVarnishNight$Gallery;)V"⟩
abbrev cX0_get : ByteArray := prog_2_method_3_code
def yX0_get : MethodName := ⟨RX0, "get", "(II)I"⟩
abbrev cX0_put : ByteArray := prog_2_method_4_code
def yX0_put : MethodName := ⟨RX0, "put", "(III)V"⟩
abbrev cX0_lacks : ByteArray := prog_2_method_5_code
def yX0_lacks : MethodName := ⟨RX0, "lacks", "(I)Z"⟩
abbrev cX0_isFull : ByteArray := prog_2_method_6_code
def yX0_isFull : MethodName := ⟨RX0, "isFull", "()Z"⟩
abbrev cX0_hang : ByteArray := prog_2_method_7_code
def yX0_hang : MethodName := ⟨RX0, "hang", "(III)I"⟩
abbrev cX0_hourOfNight : ByteArray := prog_2_method_8_code
def yX0_hourOfNight : MethodName := ⟨RX0, "hourOfNight", "()I"⟩
abbrev cX0_isTacky : ByteArray := prog_2_method_9_code
def yX0_isTacky : MethodName := ⟨RX0, "isTacky", "()Z"⟩
abbrev cX0_everybody : ByteArray := prog_2_method_10_code
def yX0_everybody : MethodName := ⟨RX0, "everybody", "()I"⟩
abbrev cX0_sum : ByteArray := prog_2_method_11_code
def yX0_sum : MethodName := ⟨RX0, "sum", "(I)I"⟩
abbrev cX0_whoHas : ByteArray := prog_2_method_12_code
def yX0_whoHas : MethodName := ⟨RX0, "whoHas", "(II)I"⟩
abbrev cX0_whoIsContent : ByteArray := prog_2_method_13_code
def yX0_whoIsContent : MethodName := ⟨RX0, "whoIsContent", "()I"⟩
abbrev cX0_whoIsWaiting : ByteArray := prog_2_method_14_code
def yX0_whoIsWaiting : MethodName := ⟨RX0, "whoIsWaiting", "()I"⟩
abbrev cX0_whoIsSeen : ByteArray := prog_2_method_15_code
def yX0_whoIsSeen : MethodName := ⟨RX0, "whoIsSeen", "()I"⟩
abbrev cX0_howManyContent : ByteArray := prog_2_method_16_code
def yX0_howManyContent : MethodName := ⟨RX0, "howManyContent", "()I"⟩
abbrev cX0_look : ByteArray := prog_2_method_17_code
def yX0_look : MethodName := ⟨RX0, "look", "(I)I"⟩
abbrev cX0_lampsOn : ByteArray := prog_2_method_18_code
def yX0_lampsOn : MethodName := ⟨RX0, "lampsOn", "(I)I"⟩
abbrev cX0_isSeenByAnother : ByteArray := prog_2_method_19_code
def yX0_isSeenByAnother : MethodName := ⟨RX0, "isSeenByAnother", "(I)Z"⟩
abbrev cX0_isContent : ByteArray := prog_2_method_20_code
def yX0_isContent : MethodName := ⟨RX0, "isContent", "(I)Z"⟩
abbrev cX0_rubs : ByteArray := prog_2_method_21_code
def yX0_rubs : MethodName := ⟨RX0, "rubs", "(I)I"⟩
abbrev cX0_isWaiting : ByteArray := prog_2_method_22_code
def yX0_isWaiting : MethodName := ⟨RX0, "isWaiting", "(I)Z"⟩
abbrev cX0_isAnotherDiscontent : ByteArray := prog_2_method_23_code
def yX0_isAnotherDiscontent : MethodName := ⟨RX0, "isAnotherDiscontent", "(I)Z"⟩
abbrev cX0_pass : ByteArray := prog_2_method_24_code
def yX0_pass : MethodName := ⟨RX0, "pass", "(I)V"⟩
abbrev cX0_haveAGo : ByteArray := prog_2_method_25_code
def yX0_haveAGo : MethodName := ⟨RX0, "haveAGo", "(I)V"⟩
abbrev cX0_isChangedBy : ByteArray := prog_2_method_26_code
def yX0_isChangedBy : MethodName := ⟨RX0, "isChangedBy", "(II)Z"⟩
abbrev cX0_replace : ByteArray := prog_2_method_27_code
def yX0_replace : MethodName := ⟨RX0, "replace", "(III)Z"⟩
abbrev cX0_nearer : ByteArray := prog_2_method_28_code
def yX0_nearer : MethodName := ⟨RX0, "nearer", "(II)I"⟩
abbrev cX0_farther : ByteArray := prog_2_method_29_code
def yX0_farther : MethodName := ⟨RX0, "farther", "(II)I"⟩
def RX1 : String := "VarnishNight$Sheet"
def TX1 : u_T := fun k => match k with
  | 0 => ("VarnishNight$Sheet", "bits", "I", false)
  | 1 => ("VarnishNight$Sheet", "length", "I", false)
  | _ => ("VarnishNight$Sheet", "numbers", "[J", true)
def tyX1 : Nat → FieldType := fun k => match k with
  | 0 => .int
  | 1 => .int
  | _ => .array .long
abbrev wsX10 : List Cond := u_ws RX1 TX1 3
theorem nmX1 : ∀ a, a < 3 → ∀ b, b < 3 → a ≠ b → (TX1 a).2.1 ≠ (TX1 b).2.1 := by decide +kernel
theorem tyX1_ok : ∀ k, k < 3 → parseFieldDescriptor (TX1 k).2.2.1 = some (tyX1 k) := by decide +kernel
abbrev cX1_init : ByteArray := prog_3_method_1_code
def yX1_init : MethodName := ⟨RX1, "<init>", "()V"⟩
abbrev cX1_isMissing : ByteArray := prog_3_method_2_code
def yX1_isMissing : MethodName := ⟨RX1, "isMissing", "()Z"⟩
abbrev cX1_lay : ByteArray := prog_3_method_3_code
def yX1_lay : MethodName := ⟨RX1, "lay", "(II)V"⟩
abbrev cX1_lacks : ByteArray := prog_3_method_4_code
def yX1_lacks : MethodName := ⟨RX1, "lacks", "(II)Z"⟩
abbrev cX1_get : ByteArray := prog_3_method_5_code
def yX1_get : MethodName := ⟨RX1, "get", "(I)J"⟩
abbrev cX1_put : ByteArray := prog_3_method_6_code
def yX1_put : MethodName := ⟨RX1, "put", "(IJ)V"⟩
abbrev cX1_lowest : ByteArray := prog_3_method_7_code
def yX1_lowest : MethodName := ⟨RX1, "lowest", "(J)J"⟩
def RX2 : String := "VarnishNight$Teller"
def TX2 : u_T := fun k => match k with
  | 0 => ("VarnishNight$Teller", "length", "I", false)
  | 1 => ("VarnishNight$Teller", "bytes", "[I", true)
  | 2 => ("VarnishNight$Teller", "token", "I", false)
  | 3 => ("VarnishNight$Teller", "begin", "I", false)
  | 4 => ("VarnishNight$Teller", "end", "I", false)
  | 5 => ("VarnishNight$Teller", "value", "I", false)
  | _ => ("VarnishNight$Teller", "taken", "I", false)
def tyX2 : Nat → FieldType := fun k => match k with
  | 0 => .int
  | 1 => .array .int
  | 2 => .int
  | 3 => .int
  | 4 => .int
  | 5 => .int
  | _ => .int
abbrev wsX20 : List Cond := u_ws RX2 TX2 7
theorem nmX2 : ∀ a, a < 7 → ∀ b, b < 7 → a ≠ b → (TX2 a).2.1 ≠ (TX2 b).2.1 := by decide +kernel
theorem tyX2_ok : ∀ k, k < 7 → parseFieldDescriptor (TX2 k).2.2.1 = some (tyX2 k) := by decide +kernel
abbrev cX2_init : ByteArray := prog_4_method_1_code
def yX2_init : MethodName := ⟨RX2, "<init>", "()V"⟩
abbrev cX2_take : ByteArray := prog_4_method_2_code
def yX2_take : MethodName := ⟨RX2, "take", "(I)V"⟩
abbrev cX2_tell : ByteArray := prog_4_method_3_code
def yX2_tell : MethodName := ⟨RX2, "tell", "(LVarnishNight$Gallery;)I"⟩
abbrev cX2_isItem : ByteArray := prog_4_method_4_code
def yX2_isItem : MethodName := ⟨RX2, "isItem", "(LVarnishNight$Gallery;)Z"⟩
abbrev cX2_isFigure : ByteArray := prog_4_method_5_code
def yX2_isFigure : MethodName := ⟨RX2, "isFigure", "(LVarnishNight$Gallery;I)Z"⟩
abbrev cX2_isWanting : ByteArray := prog_4_method_6_code
def yX2_isWanting : MethodName := ⟨RX2, "isWanting", "(LVarnishNight$Gallery;)Z"⟩
abbrev cX2_isLetting : ByteArray := prog_4_method_7_code
def yX2_isLetting : MethodName := ⟨RX2, "isLetting", "(LVarnishNight$Gallery;I)Z"⟩
abbrev cX2_takesNumber : ByteArray := prog_4_method_8_code
def yX2_takesNumber : MethodName := ⟨RX2, "takesNumber", "(I)Z"⟩
abbrev cX2_kindNamed : ByteArray := prog_4_method_9_code
def yX2_kindNamed : MethodName := ⟨RX2, "kindNamed", "()I"⟩
abbrev cX2_wantNamed : ByteArray := prog_4_method_10_code
def yX2_wantNamed : MethodName := ⟨RX2, "wantNamed", "()I"⟩
abbrev cX2_isWord : ByteArray := prog_4_method_11_code
def yX2_isWord : MethodName := ⟨RX2, "isWord", "(Ljava/lang/String;)Z"⟩
abbrev cX2_advance : ByteArray := prog_4_method_12_code
def yX2_advance : MethodName := ⟨RX2, "advance", "()V"⟩
abbrev cX2_byteAt : ByteArray := prog_4_method_13_code
def yX2_byteAt : MethodName := ⟨RX2, "byteAt", "(I)I"⟩
abbrev cX2_tokenOf : ByteArray := prog_4_method_14_code
def yX2_tokenOf : MethodName := ⟨RX2, "tokenOf", "(I)I"⟩
def RX3 : String := "VarnishNight"
def TX3 : u_T := fun k => match k with
  | 0 => ("VarnishNight", "gallery", "LVarnishNight$Gallery;", true)
  | 1 => ("VarnishNight", "trial", "LVarnishNight$Gallery;", true)
  | 2 => ("VarnishNight", "kept", "LVarnishNight$Gallery;", true)
  | 3 => ("VarnishNight", "isKept", "Z", false)
  | 4 => ("VarnishNight", "teller", "LVarnishNight$Teller;", true)
  | 5 => ("VarnishNight", "sheets", "[LVarnishNight$Sheet;", true)
  | 6 => ("VarnishNight", "findings", "[I", true)
  | _ => ("VarnishNight", "contentWith", "[I", true)
def tyX3 : Nat → FieldType := fun k => match k with
  | 0 => .object "VarnishNight$Gallery"
  | 1 => .object "VarnishNight$Gallery"
  | 2 => .object "VarnishNight$Gallery"
  | 3 => .boolean
  | 4 => .object "VarnishNight$Teller"
  | 5 => .array (.object "VarnishNight$Sheet")
  | 6 => .array .int
  | _ => .array .int
abbrev wsX30 : List Cond := u_ws RX3 TX3 8
theorem nmX3 : ∀ a, a < 8 → ∀ b, b < 8 → a ≠ b → (TX3 a).2.1 ≠ (TX3 b).2.1 := by decide +kernel
theorem tyX3_ok : ∀ k, k < 8 → parseFieldDescriptor (TX3 k).2.2.1 = some (tyX3 k) := by decide +kernel
abbrev cX3_init : ByteArray := prog_1_method_1_code
def yX3_init : MethodName := ⟨RX3, "<init>", "()V"⟩
abbrev cX3_tacky : ByteArray := prog_1_method_2_code
def yX3_tacky : MethodName := ⟨RX3, "tacky", "(I)I"⟩
abbrev cX3_now : ByteArray := prog_1_method_3_code
def yX3_now : MethodName := ⟨RX3, "now", "(I)I"⟩
abbrev cX3_hangs : ByteArray := prog_1_method_4_code
def yX3_hangs : MethodName := ⟨RX3, "hangs", "(I)I"⟩
abbrev cX3_figure : ByteArray := prog_1_method_5_code
def yX3_figure : MethodName := ⟨RX3, "figure", "(III)I"⟩
abbrev cX3_of : ByteArray := prog_1_method_6_code
def yX3_of : MethodName := ⟨RX3, "of", "(II)I"⟩
abbrev cX3_set : ByteArray := prog_1_method_7_code
def yX3_set : MethodName := ⟨RX3, "set", "(III)I"⟩
abbrev cX3_seen : ByteArray := prog_1_method_8_code
def yX3_seen : MethodName := ⟨RX3, "seen", "(I)I"⟩
abbrev cX3_turn : ByteArray := prog_1_method_9_code
def yX3_turn : MethodName := ⟨RX3, "turn", "(II)I"⟩
abbrev cX3_as : ByteArray := prog_1_method_10_code
def yX3_as : MethodName := ⟨RX3, "as", "(II)I"⟩
abbrev cX3_hours : ByteArray := prog_1_method_11_code
def yX3_hours : MethodName := ⟨RX3, "hours", "(I)I"⟩
abbrev cX3_on : ByteArray := prog_1_method_12_code
def yX3_on : MethodName := ⟨RX3, "on", "(III)I"⟩
abbrev cX3_when : ByteArray := prog_1_method_13_code
def yX3_when : MethodName := ⟨RX3, "when", "(I)I"⟩
abbrev cX3_all : ByteArray := prog_1_method_14_code
def yX3_all : MethodName := ⟨RX3, "all", "()I"⟩
abbrev cX3_many : ByteArray := prog_1_method_15_code
def yX3_many : MethodName := ⟨RX3, "many", "(I)I"⟩
abbrev cX3_porter : ByteArray := prog_1_method_16_code
def yX3_porter : MethodName := ⟨RX3, "porter", "(I)I"⟩
abbrev cX3_by : ByteArray := prog_1_method_17_code
def yX3_by : MethodName := ⟨RX3, "by", "(II)I"⟩
abbrev cX3_kind : ByteArray := prog_1_method_18_code
def yX3_kind : MethodName := ⟨RX3, "kind", "(II)I"⟩
abbrev cX3_place : ByteArray := prog_1_method_19_code
def yX3_place : MethodName := ⟨RX3, "place", "(II)I"⟩
abbrev cX3_clash : ByteArray := prog_1_method_20_code
def yX3_clash : MethodName := ⟨RX3, "clash", "(I)I"⟩
abbrev cX3_want : ByteArray := prog_1_method_21_code
def yX3_want : MethodName := ⟨RX3, "want", "(II)I"⟩
abbrev cX3_nose : ByteArray := prog_1_method_22_code
def yX3_nose : MethodName := ⟨RX3, "nose", "(II)I"⟩
abbrev cX3_feed : ByteArray := prog_1_method_23_code
def yX3_feed : MethodName := ⟨RX3, "feed", "(II)I"⟩
abbrev cX3_wipe : ByteArray := prog_1_method_24_code
def yX3_wipe : MethodName := ⟨RX3, "wipe", "()I"⟩
abbrev cX3_night : ByteArray := prog_1_method_25_code
def yX3_night : MethodName := ⟨RX3, "night", "()I"⟩
abbrev cX3_sheet : ByteArray := prog_1_method_26_code
def yX3_sheet : MethodName := ⟨RX3, "sheet", "(III)I"⟩
abbrev cX3_write : ByteArray := prog_1_method_27_code
def yX3_write : MethodName := ⟨RX3, "write", "(IIJ)J"⟩
abbrev cX3_copy : ByteArray := prog_1_method_28_code
def yX3_copy : MethodName := ⟨RX3, "copy", "(IIIII)I"⟩
abbrev cX3_lays : ByteArray := prog_1_method_29_code
def yX3_lays : MethodName := ⟨RX3, "lays", "(I)I"⟩
abbrev cX3_book : ByteArray := prog_1_method_30_code
def yX3_book : MethodName := ⟨RX3, "book", "(II)I"⟩
abbrev cX3_read : ByteArray := prog_1_method_31_code
def yX3_read : MethodName := ⟨RX3, "read", "(II)I"⟩
abbrev cX3_image : ByteArray := prog_1_method_32_code
def yX3_image : MethodName := ⟨RX3, "image", "()I"⟩
abbrev cX3_undo : ByteArray := prog_1_method_33_code
def yX3_undo : MethodName := ⟨RX3, "undo", "()I"⟩
abbrev cX3_tear : ByteArray := prog_1_method_34_code
def yX3_tear : MethodName := ⟨RX3, "tear", "()I"⟩
abbrev cX3_count : ByteArray := prog_1_method_35_code
def yX3_count : MethodName := ⟨RX3, "count", "(I)I"⟩
abbrev cX3_status : ByteArray := prog_1_method_36_code
def yX3_status : MethodName := ⟨RX3, "status", "(I)I"⟩
abbrev cX3_finding : ByteArray := prog_1_method_37_code
def yX3_finding : MethodName := ⟨RX3, "finding", "(I)I"⟩
abbrev cX3_isOutside : ByteArray := prog_1_method_38_code
def yX3_isOutside : MethodName := ⟨RX3, "isOutside", "(III)Z"⟩
abbrev cX3_least : ByteArray := prog_1_method_39_code
def yX3_least : MethodName := ⟨RX3, "least", "(I)I"⟩
abbrev cX3_greatest : ByteArray := prog_1_method_40_code
def yX3_greatest : MethodName := ⟨RX3, "greatest", "(I)I"⟩
abbrev cX3_kindAbove : ByteArray := prog_1_method_41_code
def yX3_kindAbove : MethodName := ⟨RX3, "kindAbove", "(I)I"⟩
abbrev cX3_isUnder : ByteArray := prog_1_method_42_code
def yX3_isUnder : MethodName := ⟨RX3, "isUnder", "(II)Z"⟩
abbrev cX3_sheetAt : ByteArray := prog_1_method_43_code
def yX3_sheetAt : MethodName := ⟨RX3, "sheetAt", "(I)LVarnishNight$Sheet;"⟩
abbrev cX3_firstContent : ByteArray := prog_1_method_44_code
def yX3_firstContent : MethodName := ⟨RX3, "firstContent", "(I)I"⟩
abbrev cX3_suppose : ByteArray := prog_1_method_45_code
def yX3_suppose : MethodName := ⟨RX3, "suppose", "(III)V"⟩
abbrev cX3_mostContentWith : ByteArray := prog_1_method_46_code
def yX3_mostContentWith : MethodName := ⟨RX3, "mostContentWith", "(IIII)I"⟩
abbrev cX3_gatherContentWith : ByteArray := prog_1_method_47_code
def yX3_gatherContentWith : MethodName := ⟨RX3, "gatherContentWith", "(I)V"⟩
abbrev cX3_wantsClash : ByteArray := prog_1_method_48_code
def yX3_wantsClash : MethodName := ⟨RX3, "wantsClash", "(II)Z"⟩
abbrev cX3_trialGoesAs : ByteArray := prog_1_method_49_code
def yX3_trialGoesAs : MethodName := ⟨RX3, "trialGoesAs", "(LVarnishNight$Sheet;I)Z"⟩
def RX4 : String := "VarnishNightModel"
def TX4 : u_T := fun k => match k with
  | 0 => ("VarnishNightModel", "s", "[I", true)
  | 1 => ("VarnishNightModel", "keptS", "[I", true)
  | 2 => ("VarnishNightModel", "other", "[I", true)
  | 3 => ("VarnishNightModel", "aside", "[I", true)
  | 4 => ("VarnishNightModel", "statuses", "[I", true)
  | 5 => ("VarnishNightModel", "isKept", "Z", false)
  | 6 => ("VarnishNightModel", "contentAt", "[I", true)
  | 7 => ("VarnishNightModel", "tape", "[I", true)
  | 8 => ("VarnishNightModel", "taped", "I", false)
  | 9 => ("VarnishNightModel", "from", "I", false)
  | 10 => ("VarnishNightModel", "to", "I", false)
  | 11 => ("VarnishNightModel", "value", "I", false)
  | 12 => ("VarnishNightModel", "isWrong", "Z", false)
  | 13 => ("VarnishNightModel", "bitsOf", "[I", true)
  | 14 => ("VarnishNightModel", "sizeOf", "[I", true)
  | 15 => ("VarnishNightModel", "numbers", "[J", true)
  | _ => ("VarnishNightModel", "moved", "[J", true)
def tyX4 : Nat → FieldType := fun k => match k with
  | 0 => .array .int
  | 1 => .array .int
  | 2 => .array .int
  | 3 => .array .int
  | 4 => .array .int
  | 5 => .boolean
  | 6 => .array .int
  | 7 => .array .int
  | 8 => .int
  | 9 => .int
  | 10 => .int
  | 11 => .int
  | 12 => .boolean
  | 13 => .array .int
  | 14 => .array .int
  | 15 => .array .long
  | _ => .array .long
abbrev wsX40 : List Cond := u_ws RX4 TX4 17
theorem nmX4 : ∀ a, a < 17 → ∀ b, b < 17 → a ≠ b → (TX4 a).2.1 ≠ (TX4 b).2.1 := by decide +kernel
theorem tyX4_ok : ∀ k, k < 17 → parseFieldDescriptor (TX4 k).2.2.1 = some (tyX4 k) := by decide +kernel
abbrev cX4_init : ByteArray := prog_6_method_1_code
def yX4_init : MethodName := ⟨RX4, "<init>", "()V"⟩
abbrev cX4_in : ByteArray := prog_6_method_2_code
def yX4_in : MethodName := ⟨RX4, "in", "(JJJ)Z"⟩
abbrev cX4_finds : ByteArray := prog_6_method_3_code
def yX4_finds : MethodName := ⟨RX4, "finds", "(I)I"⟩
abbrev cX4_saves : ByteArray := prog_6_method_4_code
def yX4_saves : MethodName := ⟨RX4, "saves", "()V"⟩
abbrev cX4_putsBack : ByteArray := prog_6_method_5_code
def yX4_putsBack : MethodName := ⟨RX4, "putsBack", "()V"⟩
abbrev cX4_laysAside : ByteArray := prog_6_method_6_code
def yX4_laysAside : MethodName := ⟨RX4, "laysAside", "()V"⟩
abbrev cX4_takesBack : ByteArray := prog_6_method_7_code
def yX4_takesBack : MethodName := ⟨RX4, "takesBack", "(I)I"⟩
abbrev cX4_becomes : ByteArray := prog_6_method_8_code
def yX4_becomes : MethodName := ⟨RX4, "becomes", "(II)I"⟩
abbrev cX4_spot : ByteArray := prog_6_method_9_code
def yX4_spot : MethodName := ⟨RX4, "spot", "(II)I"⟩
abbrev cX4_its : ByteArray := prog_6_method_10_code
def yX4_its : MethodName := ⟨RX4, "its", "(II)I"⟩
abbrev cX4_isFigure : ByteArray := prog_6_method_11_code
def yX4_isFigure : MethodName := ⟨RX4, "isFigure", "(I)Z"⟩
abbrev cX4_isKind : ByteArray := prog_6_method_12_code
def yX4_isKind : MethodName := ⟨RX4, "isKind", "(I)Z"⟩
abbrev cX4_held : ByteArray := prog_6_method_13_code
def yX4_held : MethodName := ⟨RX4, "held", "(III)I"⟩
abbrev cX4_together : ByteArray := prog_6_method_14_code
def yX4_together : MethodName := ⟨RX4, "together", "(I)I"⟩
abbrev cX4_tacky : ByteArray := prog_6_method_15_code
def yX4_tacky : MethodName := ⟨RX4, "tacky", "(I)I"⟩
abbrev cX4_ofNight : ByteArray := prog_6_method_16_code
def yX4_ofNight : MethodName := ⟨RX4, "ofNight", "()I"⟩
abbrev cX4_isTacky : ByteArray := prog_6_method_17_code
def yX4_isTacky : MethodName := ⟨RX4, "isTacky", "()Z"⟩
abbrev cX4_apart : ByteArray := prog_6_method_18_code
def yX4_apart : MethodName := ⟨RX4, "apart", "(II)I"⟩
abbrev cX4_isBeside : ByteArray := prog_6_method_19_code
def yX4_isBeside : MethodName := ⟨RX4, "isBeside", "(II)Z"⟩
abbrev cX4_isWithWhom : ByteArray := prog_6_method_20_code
def yX4_isWithWhom : MethodName := ⟨RX4, "isWithWhom", "(I)Z"⟩
abbrev cX4_isContent : ByteArray := prog_6_method_21_code
def yX4_isContent : MethodName := ⟨RX4, "isContent", "(I)Z"⟩
abbrev cX4_lampsOn : ByteArray := prog_6_method_22_code
def yX4_lampsOn : MethodName := ⟨RX4, "lampsOn", "(I)I"⟩
abbrev cX4_beside : ByteArray := prog_6_method_23_code
def yX4_beside : MethodName := ⟨RX4, "beside", "(I)I"⟩
abbrev cX4_isAnyOtherCross : ByteArray := prog_6_method_24_code
def yX4_isAnyOtherCross : MethodName := ⟨RX4, "isAnyOtherCross", "(I)Z"⟩
abbrev cX4_rubsOf : ByteArray := prog_6_method_25_code
def yX4_rubsOf : MethodName := ⟨RX4, "rubsOf", "(I)I"⟩
abbrev cX4_isWaiting : ByteArray := prog_6_method_26_code
def yX4_isWaiting : MethodName := ⟨RX4, "isWaiting", "(I)Z"⟩
abbrev cX4_content : ByteArray := prog_6_method_27_code
def yX4_content : MethodName := ⟨RX4, "content", "()I"⟩
abbrev cX4_waiting : ByteArray := prog_6_method_28_code
def yX4_waiting : MethodName := ⟨RX4, "waiting", "()I"⟩
abbrev cX4_seenOnes : ByteArray := prog_6_method_29_code
def yX4_seenOnes : MethodName := ⟨RX4, "seenOnes", "()I"⟩
abbrev cX4_outOnes : ByteArray := prog_6_method_30_code
def yX4_outOnes : MethodName := ⟨RX4, "outOnes", "()I"⟩
abbrev cX4_now : ByteArray := prog_6_method_31_code
def yX4_now : MethodName := ⟨RX4, "now", "(I)I"⟩
abbrev cX4_hangs : ByteArray := prog_6_method_32_code
def yX4_hangs : MethodName := ⟨RX4, "hangs", "(I)I"⟩
abbrev cX4_adds : ByteArray := prog_6_method_33_code
def yX4_adds : MethodName := ⟨RX4, "adds", "(III)I"⟩
abbrev cX4_figure : ByteArray := prog_6_method_34_code
def yX4_figure : MethodName := ⟨RX4, "figure", "(III)I"⟩
abbrev cX4_of : ByteArray := prog_6_method_35_code
def yX4_of : MethodName := ⟨RX4, "of", "(II)I"⟩
abbrev cX4_isSet : ByteArray := prog_6_method_36_code
def yX4_isSet : MethodName := ⟨RX4, "isSet", "(II)Z"⟩
abbrev cX4_set : ByteArray := prog_6_method_37_code
def yX4_set : MethodName := ⟨RX4, "set", "(III)I"⟩
abbrev cX4_seen : ByteArray := prog_6_method_38_code
def yX4_seen : MethodName := ⟨RX4, "seen", "(I)I"⟩
abbrev cX4_turn : ByteArray := prog_6_method_39_code
def yX4_turn : MethodName := ⟨RX4, "turn", "(II)I"⟩
abbrev cX4_isUnder : ByteArray := prog_6_method_40_code
def yX4_isUnder : MethodName := ⟨RX4, "isUnder", "(II)Z"⟩
abbrev cX4_as : ByteArray := prog_6_method_41_code
def yX4_as : MethodName := ⟨RX4, "as", "(II)I"⟩
abbrev cX4_columnBy : ByteArray := prog_6_method_42_code
def yX4_columnBy : MethodName := ⟨RX4, "columnBy", "(II)I"⟩
abbrev cX4_works : ByteArray := prog_6_method_43_code
def yX4_works : MethodName := ⟨RX4, "works", "(I)V"⟩
abbrev cX4_hour : ByteArray := prog_6_method_44_code
def yX4_hour : MethodName := ⟨RX4, "hour", "()V"⟩
abbrev cX4_hoursGo : ByteArray := prog_6_method_45_code
def yX4_hoursGo : MethodName := ⟨RX4, "hoursGo", "(I)V"⟩
abbrev cX4_hours : ByteArray := prog_6_method_46_code
def yX4_hours : MethodName := ⟨RX4, "hours", "(I)I"⟩
abbrev cX4_isAhead : ByteArray := prog_6_method_47_code
def yX4_isAhead : MethodName := ⟨RX4, "isAhead", "(I)Z"⟩
abbrev cX4_behind : ByteArray := prog_6_method_48_code
def yX4_behind : MethodName := ⟨RX4, "behind", "(II)I"⟩
abbrev cX4_contentMany : ByteArray := prog_6_method_49_code
def yX4_contentMany : MethodName := ⟨RX4, "contentMany", "()I"⟩
abbrev cX4_manyBehind : ByteArray := prog_6_method_50_code
def yX4_manyBehind : MethodName := ⟨RX4, "manyBehind", "(I)I"⟩
abbrev cX4_on : ByteArray := prog_6_method_51_code
def yX4_on : MethodName := ⟨RX4, "on", "(III)I"⟩
abbrev cX4_toldAt : ByteArray := prog_6_method_52_code
def yX4_toldAt : MethodName := ⟨RX4, "toldAt", "(I)I"⟩
abbrev cX4_when : ByteArray := prog_6_method_53_code
def yX4_when : MethodName := ⟨RX4, "when", "(I)I"⟩
abbrev cX4_all : ByteArray := prog_6_method_54_code
def yX4_all : MethodName := ⟨RX4, "all", "()I"⟩
abbrev cX4_many : ByteArray := prog_6_method_55_code
def yX4_many : MethodName := ⟨RX4, "many", "(I)I"⟩
abbrev cX4_isSoon : ByteArray := prog_6_method_56_code
def yX4_isSoon : MethodName := ⟨RX4, "isSoon", "(I)Z"⟩
abbrev cX4_mostBy : ByteArray := prog_6_method_57_code
def yX4_mostBy : MethodName := ⟨RX4, "mostBy", "(III)I"⟩
abbrev cX4_porter : ByteArray := prog_6_method_58_code
def yX4_porter : MethodName := ⟨RX4, "porter", "(I)I"⟩
abbrev cX4_by : ByteArray := prog_6_method_59_code
def yX4_by : MethodName := ⟨RX4, "by", "(II)I"⟩
abbrev cX4_kind : ByteArray := prog_6_method_60_code
def yX4_kind : MethodName := ⟨RX4, "kind", "(II)I"⟩
abbrev cX4_place : ByteArray := prog_6_method_61_code
def yX4_place : MethodName := ⟨RX4, "place", "(II)I"⟩
abbrev cX4_isClash : ByteArray := prog_6_method_62_code
def yX4_isClash : MethodName := ⟨RX4, "isClash", "(III)Z"⟩
abbrev cX4_clash : ByteArray := prog_6_method_63_code
def yX4_clash : MethodName := ⟨RX4, "clash", "(I)I"⟩
abbrev cX4_want : ByteArray := prog_6_method_64_code
def yX4_want : MethodName := ⟨RX4, "want", "(II)I"⟩
abbrev cX4_nose : ByteArray := prog_6_method_65_code
def yX4_nose : MethodName := ⟨RX4, "nose", "(II)I"⟩
abbrev cX4_feed : ByteArray := prog_6_method_66_code
def yX4_feed : MethodName := ⟨RX4, "feed", "(II)I"⟩
abbrev cX4_wipe : ByteArray := prog_6_method_67_code
def yX4_wipe : MethodName := ⟨RX4, "wipe", "()I"⟩
abbrev cX4_byteAt : ByteArray := prog_6_method_68_code
def yX4_byteAt : MethodName := ⟨RX4, "byteAt", "(I)I"⟩
abbrev cX4_isLetter : ByteArray := prog_6_method_69_code
def yX4_isLetter : MethodName := ⟨RX4, "isLetter", "(I)Z"⟩
abbrev cX4_isDigit : ByteArray := prog_6_method_70_code
def yX4_isDigit : MethodName := ⟨RX4, "isDigit", "(I)Z"⟩
abbrev cX4_token : ByteArray := prog_6_method_71_code
def yX4_token : MethodName := ⟨RX4, "token", "()V"⟩
abbrev cX4_must : ByteArray := prog_6_method_72_code
def yX4_must : MethodName := ⟨RX4, "must", "(Z)V"⟩
abbrev cX4_word : ByteArray := prog_6_method_73_code
def yX4_word : MethodName := ⟨RX4, "word", "()J"⟩
abbrev cX4_number : ByteArray := prog_6_method_74_code
def yX4_number : MethodName := ⟨RX4, "number", "(II)V"⟩
abbrev cX4_kindHere : ByteArray := prog_6_method_75_code
def yX4_kindHere : MethodName := ⟨RX4, "kindHere", "()I"⟩
abbrev cX4_wantHere : ByteArray := prog_6_method_76_code
def yX4_wantHere : MethodName := ⟨RX4, "wantHere", "()I"⟩
abbrev cX4_figureItem : ByteArray := prog_6_method_77_code
def yX4_figureItem : MethodName := ⟨RX4, "figureItem", "(I)V"⟩
abbrev cX4_wantsItem : ByteArray := prog_6_method_78_code
def yX4_wantsItem : MethodName := ⟨RX4, "wantsItem", "()V"⟩
abbrev cX4_outItem : ByteArray := prog_6_method_79_code
def yX4_outItem : MethodName := ⟨RX4, "outItem", "(I)V"⟩
abbrev cX4_tackyItem : ByteArray := prog_6_method_80_code
def yX4_tackyItem : MethodName := ⟨RX4, "tackyItem", "()V"⟩
abbrev cX4_item : ByteArray := prog_6_method_81_code
def yX4_item : MethodName := ⟨RX4, "item", "()V"⟩
abbrev cX4_night : ByteArray := prog_6_method_82_code
def yX4_night : MethodName := ⟨RX4, "night", "()I"⟩
abbrev cX4_isOne : ByteArray := prog_6_method_83_code
def yX4_isOne : MethodName := ⟨RX4, "isOne", "(I)Z"⟩
abbrev cX4_sheet : ByteArray := prog_6_method_84_code
def yX4_sheet : MethodName := ⟨RX4, "sheet", "(III)I"⟩
abbrev cX4_narrowed : ByteArray := prog_6_method_85_code
def yX4_narrowed : MethodName := ⟨RX4, "narrowed", "(IJ)J"⟩
abbrev cX4_wrongSheet : ByteArray := prog_6_method_86_code
def yX4_wrongSheet : MethodName := ⟨RX4, "wrongSheet", "(I)I"⟩
abbrev cX4_write : ByteArray := prog_6_method_87_code
def yX4_write : MethodName := ⟨RX4, "write", "(IIJ)J"⟩
abbrev cX4_copy : ByteArray := prog_6_method_88_code
def yX4_copy : MethodName := ⟨RX4, "copy", "(IIIII)I"⟩
abbrev cX4_lays : ByteArray := prog_6_method_89_code
def yX4_lays : MethodName := ⟨RX4, "lays", "(I)I"⟩
abbrev cX4_booked : ByteArray := prog_6_method_90_code
def yX4_booked : MethodName := ⟨RX4, "booked", "(I)I"⟩
abbrev cX4_book : ByteArray := prog_6_method_91_code
def yX4_book : MethodName := ⟨RX4, "book", "(II)I"⟩
abbrev cX4_isBook : ByteArray := prog_6_method_92_code
def yX4_isBook : MethodName := ⟨RX4, "isBook", "(II)Z"⟩
abbrev cX4_read : ByteArray := prog_6_method_93_code
def yX4_read : MethodName := ⟨RX4, "read", "(II)I"⟩
abbrev cX4_image : ByteArray := prog_6_method_94_code
def yX4_image : MethodName := ⟨RX4, "image", "()I"⟩
abbrev cX4_undo : ByteArray := prog_6_method_95_code
def yX4_undo : MethodName := ⟨RX4, "undo", "()I"⟩
abbrev cX4_tear : ByteArray := prog_6_method_96_code
def yX4_tear : MethodName := ⟨RX4, "tear", "()I"⟩
abbrev cX4_count : ByteArray := prog_6_method_97_code
def yX4_count : MethodName := ⟨RX4, "count", "(I)I"⟩
abbrev cX4_status : ByteArray := prog_6_method_98_code
def yX4_status : MethodName := ⟨RX4, "status", "(I)I"⟩
def RJ6 : String := "java/lang/Integer"
def TJ6 : u_T := fun k => match k with
  | _ => ("", "", "", false)
def tyJ6 : Nat → FieldType := fun k => match k with
  | _ => .int
abbrev wsJ60 : List Cond := u_ws RJ6 TJ6 0
theorem nmJ6 : ∀ a, a < 0 → ∀ b, b < 0 → a ≠ b → (TJ6 a).2.1 ≠ (TJ6 b).2.1 := by decide +kernel
theorem tyJ6_ok : ∀ k, k < 0 → parseFieldDescriptor (TJ6 k).2.2.1 = some (tyJ6 k) := by decide +kernel
abbrev cJ6_bitCount_0f7a4 : ByteArray := prog_7_method_49_code
def yJ6_bitCount_0f7a4 : MethodName := ⟨RJ6, "bitCount", "(I)I"⟩
def RJ9 : String := "java/lang/Math"
def TJ9 : u_T := fun k => match k with
  | _ => ("", "", "", false)
def tyJ9 : Nat → FieldType := fun k => match k with
  | _ => .int
abbrev wsJ90 : List Cond := u_ws RJ9 TJ9 0
theorem nmJ9 : ∀ a, a < 0 → ∀ b, b < 0 → a ≠ b → (TJ9 a).2.1 ≠ (TJ9 b).2.1 := by decide +kernel
theorem tyJ9_ok : ∀ k, k < 0 → parseFieldDescriptor (TJ9 k).2.2.1 = some (tyJ9 k) := by decide +kernel
abbrev cJ9_abs_0f7a4 : ByteArray := prog_8_method_59_code
def yJ9_abs_0f7a4 : MethodName := ⟨RJ9, "abs", "(I)I"⟩
abbrev cJ9_max_7cf53 : ByteArray := prog_8_method_65_code
def yJ9_max_7cf53 : MethodName := ⟨RJ9, "max", "(II)I"⟩
abbrev cJ9_min_7cf53 : ByteArray := prog_8_method_69_code
def yJ9_min_7cf53 : MethodName := ⟨RJ9, "min", "(II)I"⟩
def RJ0 : String := "java/lang/String"
def TJ0 : u_T := fun k => match k with
  | _ => ("", "", "", false)
def tyJ0 : Nat → FieldType := fun k => match k with
  | _ => .int
abbrev wsJ00 : List Cond := u_ws RJ0 TJ0 0
theorem nmJ0 : ∀ a, a < 0 → ∀ b, b < 0 → a ≠ b → (TJ0 a).2.1 ≠ (TJ0 b).2.1 := by decide +kernel
theorem tyJ0_ok : ∀ k, k < 0 → parseFieldDescriptor (TJ0 k).2.2.1 = some (tyJ0 k) := by decide +kernel
abbrev cJ0_length_8abf5 : ByteArray := prog_9_method_54_code
def yJ0_length_8abf5 : MethodName := ⟨RJ0, "length", "()I"⟩
abbrev cJ0_charAt_5068e : ByteArray := prog_9_method_56_code
def yJ0_charAt_5068e : MethodName := ⟨RJ0, "charAt", "(I)C"⟩
abbrev cJ0_coder_7d493 : ByteArray := prog_9_method_152_code
def yJ0_coder_7d493 : MethodName := ⟨RJ0, "coder", "()B"⟩
abbrev cJ0_isLatin1_aae02 : ByteArray := prog_9_method_154_code
def yJ0_isLatin1_aae02 : MethodName := ⟨RJ0, "isLatin1", "()Z"⟩
abbrev cJ0_checkIndex_df160 : ByteArray := prog_9_method_155_code
def yJ0_checkIndex_df160 : MethodName := ⟨RJ0, "checkIndex", "(II)V"⟩
def RJ1 : String := "java/lang/StringLatin1"
def TJ1 : u_T := fun k => match k with
  | _ => ("", "", "", false)
def tyJ1 : Nat → FieldType := fun k => match k with
  | _ => .int
abbrev wsJ10 : List Cond := u_ws RJ1 TJ1 0
theorem nmJ1 : ∀ a, a < 0 → ∀ b, b < 0 → a ≠ b → (TJ1 a).2.1 ≠ (TJ1 b).2.1 := by decide +kernel
theorem tyJ1_ok : ∀ k, k < 0 → parseFieldDescriptor (TJ1 k).2.2.1 = some (tyJ1 k) := by decide +kernel
abbrev cJ1_charAt_3b067 : ByteArray := prog_10_method_2_code
def yJ1_charAt_3b067 : MethodName := ⟨RJ1, "charAt", "([BI)C"⟩
def RJ2 : String := "java/lang/StringUTF16"
def TJ2 : u_T := fun k => match k with
  | _ => ("", "", "", false)
def tyJ2 : Nat → FieldType := fun k => match k with
  | _ => .int
abbrev wsJ20 : List Cond := u_ws RJ2 TJ2 0
theorem nmJ2 : ∀ a, a < 0 → ∀ b, b < 0 → a ≠ b → (TJ2 a).2.1 ≠ (TJ2 b).2.1 := by decide +kernel
theorem tyJ2_ok : ∀ k, k < 0 → parseFieldDescriptor (TJ2 k).2.2.1 = some (tyJ2 k) := by decide +kernel
abbrev cJ2_getChar_3b067 : ByteArray := prog_11_method_5_code
def yJ2_getChar_3b067 : MethodName := ⟨RJ2, "getChar", "([BI)C"⟩
abbrev cJ2_length_9d52b : ByteArray := prog_11_method_6_code
def yJ2_length_9d52b : MethodName := ⟨RJ2, "length", "([B)I"⟩
abbrev cJ2_charAt_3b067 : ByteArray := prog_11_method_83_code
def yJ2_charAt_3b067 : MethodName := ⟨RJ2, "charAt", "([BI)C"⟩
abbrev cJ2_checkIndex_2214a : ByteArray := prog_11_method_91_code
def yJ2_checkIndex_2214a : MethodName := ⟨RJ2, "checkIndex", "(I[B)V"⟩
def RJ10 : String := "java/lang/System"
def TJ10 : u_T := fun k => match k with
  | _ => ("", "", "", false)
def tyJ10 : Nat → FieldType := fun k => match k with
  | _ => .int
abbrev wsJ100 : List Cond := u_ws RJ10 TJ10 0
theorem nmJ10 : ∀ a, a < 0 → ∀ b, b < 0 → a ≠ b → (TJ10 a).2.1 ≠ (TJ10 b).2.1 := by decide +kernel
theorem tyJ10_ok : ∀ k, k < 0 → parseFieldDescriptor (TJ10 k).2.2.1 = some (tyJ10 k) := by decide +kernel
def RJ3 : String := "jdk/internal/util/Preconditions"
def TJ3 : u_T := fun k => match k with
  | _ => ("", "", "", false)
def tyJ3 : Nat → FieldType := fun k => match k with
  | _ => .int
abbrev wsJ30 : List Cond := u_ws RJ3 TJ3 0
theorem nmJ3 : ∀ a, a < 0 → ∀ b, b < 0 → a ≠ b → (TJ3 a).2.1 ≠ (TJ3 b).2.1 := by decide +kernel
theorem tyJ3_ok : ∀ k, k < 0 → parseFieldDescriptor (TJ3 k).2.2.1 = some (tyJ3 k) := by decide +kernel
abbrev cJ3_checkIndex_8e157 : ByteArray := prog_13_method_11_code
def yJ3_checkIndex_8e157 : MethodName := ⟨RJ3, "checkIndex", "(IILjava/util/function/BiFunction;)I"⟩
def RL : String := "VarnishNightLaw"
abbrev cL_law : ByteArray := code
def yL_law : MethodName := ⟨RL, "law", "([I)Z"⟩
abbrev vwCl : List vw_C := [(RX0, TX0, 4), (RX1, TX1, 3), (RX2, TX2, 7), (RX3, TX3, 8), (RX4, TX4, 17)]
end
section
theorem dX0_init_0 : decode cX0_init 0 = .ok (.aload_n 0, 1) := by decide +kernel
theorem dX0_init_1 : decode cX0_init 1 = .ok (.invokespecial 3, 3) := by decide +kernel
theorem dX0_init_4 : decode cX0_init 4 = .ok (.aload_n 0, 1) := by decide +kernel
theorem dX0_init_5 : decode cX0_init 5 = .ok (.iconst 0, 1) := by decide +kernel
theorem dX0_init_6 : decode cX0_init 6 = .ok (.putfield 9, 3) := by decide +kernel
theorem dX0_init_9 : decode cX0_init 9 = .ok (.aload_n 0, 1) := by decide +kernel
theorem dX0_init_10 : decode cX0_init 10 = .ok (.iconst 4, 1) := by decide +kernel
theorem dX0_init_11 : decode cX0_init 11 = .ok (.putfield 15, 3) := by decide +kernel
theorem dX0_init_14 : decode cX0_init 14 = .ok (.aload_n 0, 1) := by decide +kernel
theorem dX0_init_15 : decode cX0_init 15 = .ok (.iconst 0, 1) := by decide +kernel
theorem dX0_init_16 : decode cX0_init 16 = .ok (.putfield 18, 3) := by decide +kernel
theorem dX0_init_19 : decode cX0_init 19 = .ok (.aload_n 0, 1) := by decide +kernel
theorem dX0_init_20 : decode cX0_init 20 = .ok (.bipush 72, 2) := by decide +kernel
theorem dX0_init_22 : decode cX0_init 22 = .ok (.newarray .int, 2) := by decide +kernel
theorem dX0_init_24 : decode cX0_init 24 = .ok (.putfield 21, 3) := by decide +kernel
theorem dX0_init_27 : decode cX0_init 27 = .ok (.return_, 1) := by decide +kernel
theorem dX0_become_0 : decode cX0_become 0 = .ok (.aload_n 1, 1) := by decide +kernel
theorem dX0_become_1 : decode cX0_become 1 = .ok (.ifnonnull 4, 3) := by decide +kernel
theorem dX0_become_4 : decode cX0_become 4 = .ok (.return_, 1) := by decide +kernel
theorem dX0_become_5 : decode cX0_become 5 = .ok (.aload_n 0, 1) := by decide +kernel
theorem dX0_become_6 : decode cX0_become 6 = .ok (.aload_n 1, 1) := by decide +kernel
theorem dX0_become_7 : decode cX0_become 7 = .ok (.getfield 9, 3) := by decide +kernel
theorem dX0_become_10 : decode cX0_become 10 = .ok (.putfield 9, 3) := by decide +kernel
theorem dX0_become_13 : decode cX0_become 13 = .ok (.aload_n 0, 1) := by decide +kernel
theorem dX0_become_14 : decode cX0_become 14 = .ok (.aload_n 1, 1) := by decide +kernel
theorem dX0_become_15 : decode cX0_become 15 = .ok (.getfield 15, 3) := by decide +kernel
theorem dX0_become_18 : decode cX0_become 18 = .ok (.putfield 15, 3) := by decide +kernel
theorem dX0_become_21 : decode cX0_become 21 = .ok (.aload_n 0, 1) := by decide +kernel
theorem dX0_become_22 : decode cX0_become 22 = .ok (.aload_n 1, 1) := by decide +kernel
theorem dX0_become_23 : decode cX0_become 23 = .ok (.getfield 18, 3) := by decide +kernel
theorem dX0_become_26 : decode cX0_become 26 = .ok (.putfield 18, 3) := by decide +kernel
theorem dX0_become_29 : decode cX0_become 29 = .ok (.aload_n 1, 1) := by decide +kernel
theorem dX0_become_30 : decode cX0_become 30 = .ok (.getfield 21, 3) := by decide +kernel
theorem dX0_become_33 : decode cX0_become 33 = .ok (.iconst 0, 1) := by decide +kernel
theorem dX0_become_34 : decode cX0_become 34 = .ok (.aload_n 0, 1) := by decide +kernel
theorem dX0_become_35 : decode cX0_become 35 = .ok (.getfield 21, 3) := by decide +kernel
theorem dX0_become_38 : decode cX0_become 38 = .ok (.iconst 0, 1) := by decide +kernel
theorem dX0_become_39 : decode cX0_become 39 = .ok (.bipush 72, 2) := by decide +kernel
theorem dX0_become_41 : decode cX0_become 41 = .ok (.invokestatic 25, 3) := by decide +kernel
theorem dX0_become_44 : decode cX0_become 44 = .ok (.return_, 1) := by decide +kernel
theorem dX0_get_0 : decode cX0_get 0 = .ok (.iload_n 1, 1) := by decide +kernel
theorem dX0_get_1 : decode cX0_get 1 = .ok (.bipush 9, 2) := by decide +kernel
theorem dX0_get_3 : decode cX0_get 3 = .ok (.imul, 1) := by decide +kernel
theorem dX0_get_4 : decode cX0_get 4 = .ok (.iload_n 2, 1) := by decide +kernel
theorem dX0_get_5 : decode cX0_get 5 = .ok (.iadd, 1) := by decide +kernel
theorem dX0_get_6 : decode cX0_get 6 = .ok (.istore_n 3, 1) := by decide +kernel
theorem dX0_get_7 : decode cX0_get 7 = .ok (.iload_n 3, 1) := by decide +kernel
theorem dX0_get_8 : decode cX0_get 8 = .ok (.ifCond .lt 18, 3) := by decide +kernel
theorem dX0_get_11 : decode cX0_get 11 = .ok (.iload_n 3, 1) := by decide +kernel
theorem dX0_get_12 : decode cX0_get 12 = .ok (.bipush 72, 2) := by decide +kernel
theorem dX0_get_14 : decode cX0_get 14 = .ok (.if_icmp .ge 12, 3) := by decide +kernel
theorem dX0_get_17 : decode cX0_get 17 = .ok (.aload_n 0, 1) := by decide +kernel
theorem dX0_get_18 : decode cX0_get 18 = .ok (.getfield 21, 3) := by decide +kernel
theorem dX0_get_21 : decode cX0_get 21 = .ok (.iload_n 3, 1) := by decide +kernel
theorem dX0_get_22 : decode cX0_get 22 = .ok (.iaload, 1) := by decide +kernel
theorem dX0_get_23 : decode cX0_get 23 = .ok (.goto 4, 3) := by decide +kernel
theorem dX0_get_26 : decode cX0_get 26 = .ok (.iconst 0, 1) := by decide +kernel
theorem dX0_get_27 : decode cX0_get 27 = .ok (.ireturn, 1) := by decide +kernel
theorem dX0_put_0 : decode cX0_put 0 = .ok (.iload_n 1, 1) := by decide +kernel
theorem dX0_put_1 : decode cX0_put 1 = .ok (.bipush 9, 2) := by decide +kernel
theorem dX0_put_3 : decode cX0_put 3 = .ok (.imul, 1) := by decide +kernel
theorem dX0_put_4 : decode cX0_put 4 = .ok (.iload_n 2, 1) := by decide +kernel
theorem dX0_put_5 : decode cX0_put 5 = .ok (.iadd, 1) := by decide +kernel
theorem dX0_put_6 : decode cX0_put 6 = .ok (.istore 4, 2) := by decide +kernel
theorem dX0_put_8 : decode cX0_put 8 = .ok (.iload 4, 2) := by decide +kernel
theorem dX0_put_10 : decode cX0_put 10 = .ok (.ifCond .lt 18, 3) := by decide +kernel
theorem dX0_put_13 : decode cX0_put 13 = .ok (.iload 4, 2) := by decide +kernel
theorem dX0_put_15 : decode cX0_put 15 = .ok (.bipush 72, 2) := by decide +kernel
theorem dX0_put_17 : decode cX0_put 17 = .ok (.if_icmp .ge 11, 3) := by decide +kernel
theorem dX0_put_20 : decode cX0_put 20 = .ok (.aload_n 0, 1) := by decide +kernel
theorem dX0_put_21 : decode cX0_put 21 = .ok (.getfield 21, 3) := by decide +kernel
theorem dX0_put_24 : decode cX0_put 24 = .ok (.iload 4, 2) := by decide +kernel
theorem dX0_put_26 : decode cX0_put 26 = .ok (.iload_n 3, 1) := by decide +kernel
theorem dX0_put_27 : decode cX0_put 27 = .ok (.iastore, 1) := by decide +kernel
theorem dX0_put_28 : decode cX0_put 28 = .ok (.return_, 1) := by decide +kernel
theorem dX0_lacks_0 : decode cX0_lacks 0 = .ok (.iload_n 1, 1) := by decide +kernel
theorem dX0_lacks_1 : decode cX0_lacks 1 = .ok (.ifCond .lt 11, 3) := by decide +kernel
theorem dX0_lacks_4 : decode cX0_lacks 4 = .ok (.iload_n 1, 1) := by decide +kernel
theorem dX0_lacks_5 : decode cX0_lacks 5 = .ok (.aload_n 0, 1) := by decide +kernel
theorem dX0_lacks_6 : decode cX0_lacks 6 = .ok (.getfield 18, 3) := by decide +kernel
theorem dX0_lacks_9 : decode cX0_lacks 9 = .ok (.if_icmp .lt 7, 3) := by decide +kernel
theorem dX0_lacks_12 : decode cX0_lacks 12 = .ok (.iconst 1, 1) := by decide +kernel
theorem dX0_lacks_13 : decode cX0_lacks 13 = .ok (.goto 4, 3) := by decide +kernel
theorem dX0_lacks_16 : decode cX0_lacks 16 = .ok (.iconst 0, 1) := by decide +kernel
theorem dX0_lacks_17 : decode cX0_lacks 17 = .ok (.ireturn, 1) := by decide +kernel
theorem dX0_isFull_0 : decode cX0_isFull 0 = .ok (.aload_n 0, 1) := by decide +kernel
theorem dX0_isFull_1 : decode cX0_isFull 1 = .ok (.getfield 18, 3) := by decide +kernel
theorem dX0_isFull_4 : decode cX0_isFull 4 = .ok (.bipush 8, 2) := by decide +kernel
theorem dX0_isFull_6 : decode cX0_isFull 6 = .ok (.if_icmp .lt 7, 3) := by decide +kernel
theorem dX0_isFull_9 : decode cX0_isFull 9 = .ok (.iconst 1, 1) := by decide +kernel
theorem dX0_isFull_10 : decode cX0_isFull 10 = .ok (.goto 4, 3) := by decide +kernel
theorem dX0_isFull_13 : decode cX0_isFull 13 = .ok (.iconst 0, 1) := by decide +kernel
theorem dX0_isFull_14 : decode cX0_isFull 14 = .ok (.ireturn, 1) := by decide +kernel
theorem dX0_hang_0 : decode cX0_hang 0 = .ok (.aload_n 0, 1) := by decide +kernel
theorem dX0_hang_1 : decode cX0_hang 1 = .ok (.getfield 18, 3) := by decide +kernel
theorem dX0_hang_4 : decode cX0_hang 4 = .ok (.istore 4, 2) := by decide +kernel
theorem dX0_hang_6 : decode cX0_hang 6 = .ok (.aload_n 0, 1) := by decide +kernel
theorem dX0_hang_7 : decode cX0_hang 7 = .ok (.iload 4, 2) := by decide +kernel
theorem dX0_hang_9 : decode cX0_hang 9 = .ok (.iconst 0, 1) := by decide +kernel
theorem dX0_hang_10 : decode cX0_hang 10 = .ok (.iload_n 1, 1) := by decide +kernel
theorem dX0_hang_11 : decode cX0_hang 11 = .ok (.invokevirtual 31, 3) := by decide +kernel
theorem dX0_hang_14 : decode cX0_hang 14 = .ok (.aload_n 0, 1) := by decide +kernel
theorem dX0_hang_15 : decode cX0_hang 15 = .ok (.iload 4, 2) := by decide +kernel
theorem dX0_hang_17 : decode cX0_hang 17 = .ok (.iconst 1, 1) := by decide +kernel
theorem dX0_hang_18 : decode cX0_hang 18 = .ok (.iload_n 2, 1) := by decide +kernel
theorem dX0_hang_19 : decode cX0_hang 19 = .ok (.invokevirtual 31, 3) := by decide +kernel
theorem dX0_hang_22 : decode cX0_hang 22 = .ok (.aload_n 0, 1) := by decide +kernel
theorem dX0_hang_23 : decode cX0_hang 23 = .ok (.iload 4, 2) := by decide +kernel
theorem dX0_hang_25 : decode cX0_hang 25 = .ok (.iconst 2, 1) := by decide +kernel
theorem dX0_hang_26 : decode cX0_hang 26 = .ok (.iload_n 3, 1) := by decide +kernel
theorem dX0_hang_27 : decode cX0_hang 27 = .ok (.invokevirtual 31, 3) := by decide +kernel
theorem dX0_hang_30 : decode cX0_hang 30 = .ok (.aload_n 0, 1) := by decide +kernel
theorem dX0_hang_31 : decode cX0_hang 31 = .ok (.iload 4, 2) := by decide +kernel
theorem dX0_hang_33 : decode cX0_hang 33 = .ok (.iconst 3, 1) := by decide +kernel
theorem dX0_hang_34 : decode cX0_hang 34 = .ok (.bipush 50, 2) := by decide +kernel
theorem dX0_hang_36 : decode cX0_hang 36 = .ok (.invokevirtual 31, 3) := by decide +kernel
theorem dX0_hang_39 : decode cX0_hang 39 = .ok (.aload_n 0, 1) := by decide +kernel
theorem dX0_hang_40 : decode cX0_hang 40 = .ok (.iload 4, 2) := by decide +kernel
theorem dX0_hang_42 : decode cX0_hang 42 = .ok (.iconst 4, 1) := by decide +kernel
theorem dX0_hang_43 : decode cX0_hang 43 = .ok (.iconst 0, 1) := by decide +kernel
theorem dX0_hang_44 : decode cX0_hang 44 = .ok (.invokevirtual 31, 3) := by decide +kernel
theorem dX0_hang_47 : decode cX0_hang 47 = .ok (.aload_n 0, 1) := by decide +kernel
theorem dX0_hang_48 : decode cX0_hang 48 = .ok (.iload 4, 2) := by decide +kernel
theorem dX0_hang_50 : decode cX0_hang 50 = .ok (.iconst 5, 1) := by decide +kernel
theorem dX0_hang_51 : decode cX0_hang 51 = .ok (.iconst 0, 1) := by decide +kernel
theorem dX0_hang_52 : decode cX0_hang 52 = .ok (.invokevirtual 31, 3) := by decide +kernel
theorem dX0_hang_55 : decode cX0_hang 55 = .ok (.aload_n 0, 1) := by decide +kernel
theorem dX0_hang_56 : decode cX0_hang 56 = .ok (.iload 4, 2) := by decide +kernel
theorem dX0_hang_58 : decode cX0_hang 58 = .ok (.bipush 6, 2) := by decide +kernel
theorem dX0_hang_60 : decode cX0_hang 60 = .ok (.iconst (-1), 1) := by decide +kernel
theorem dX0_hang_61 : decode cX0_hang 61 = .ok (.invokevirtual 31, 3) := by decide +kernel
theorem dX0_hang_64 : decode cX0_hang 64 = .ok (.aload_n 0, 1) := by decide +kernel
theorem dX0_hang_65 : decode cX0_hang 65 = .ok (.iload 4, 2) := by decide +kernel
theorem dX0_hang_67 : decode cX0_hang 67 = .ok (.bipush 7, 2) := by decide +kernel
theorem dX0_hang_69 : decode cX0_hang 69 = .ok (.iconst 0, 1) := by decide +kernel
theorem dX0_hang_70 : decode cX0_hang 70 = .ok (.invokevirtual 31, 3) := by decide +kernel
theorem dX0_hang_73 : decode cX0_hang 73 = .ok (.aload_n 0, 1) := by decide +kernel
theorem dX0_hang_74 : decode cX0_hang 74 = .ok (.iload 4, 2) := by decide +kernel
theorem dX0_hang_76 : decode cX0_hang 76 = .ok (.bipush 8, 2) := by decide +kernel
theorem dX0_hang_78 : decode cX0_hang 78 = .ok (.iconst 0, 1) := by decide +kernel
theorem dX0_hang_79 : decode cX0_hang 79 = .ok (.invokevirtual 31, 3) := by decide +kernel
theorem dX0_hang_82 : decode cX0_hang 82 = .ok (.aload_n 0, 1) := by decide +kernel
theorem dX0_hang_83 : decode cX0_hang 83 = .ok (.iload 4, 2) := by decide +kernel
theorem dX0_hang_85 : decode cX0_hang 85 = .ok (.iconst 1, 1) := by decide +kernel
theorem dX0_hang_86 : decode cX0_hang 86 = .ok (.iadd, 1) := by decide +kernel
theorem dX0_hang_87 : decode cX0_hang 87 = .ok (.putfield 18, 3) := by decide +kernel
theorem dX0_hang_90 : decode cX0_hang 90 = .ok (.iload 4, 2) := by decide +kernel
theorem dX0_hang_92 : decode cX0_hang 92 = .ok (.ireturn, 1) := by decide +kernel
theorem dX0_hourOfNight_0 : decode cX0_hourOfNight 0 = .ok (.aload_n 0, 1) := by decide +kernel
theorem dX0_hourOfNight_1 : decode cX0_hourOfNight 1 = .ok (.getfield 9, 3) := by decide +kernel
theorem dX0_hourOfNight_4 : decode cX0_hourOfNight 4 = .ok (.bipush 8, 2) := by decide +kernel
theorem dX0_hourOfNight_6 : decode cX0_hourOfNight 6 = .ok (.irem, 1) := by decide +kernel
theorem dX0_hourOfNight_7 : decode cX0_hourOfNight 7 = .ok (.ireturn, 1) := by decide +kernel
theorem dX0_isTacky_0 : decode cX0_isTacky 0 = .ok (.aload_n 0, 1) := by decide +kernel
theorem dX0_isTacky_1 : decode cX0_isTacky 1 = .ok (.invokevirtual 35, 3) := by decide +kernel
theorem dX0_isTacky_4 : decode cX0_isTacky 4 = .ok (.aload_n 0, 1) := by decide +kernel
theorem dX0_isTacky_5 : decode cX0_isTacky 5 = .ok (.getfield 15, 3) := by decide +kernel
theorem dX0_isTacky_8 : decode cX0_isTacky 8 = .ok (.if_icmp .lt 7, 3) := by decide +kernel
theorem dX0_isTacky_11 : decode cX0_isTacky 11 = .ok (.iconst 1, 1) := by decide +kernel
theorem dX0_isTacky_12 : decode cX0_isTacky 12 = .ok (.goto 4, 3) := by decide +kernel
theorem dX0_isTacky_15 : decode cX0_isTacky 15 = .ok (.iconst 0, 1) := by decide +kernel
theorem dX0_isTacky_16 : decode cX0_isTacky 16 = .ok (.ireturn, 1) := by decide +kernel
theorem dX0_everybody_0 : decode cX0_everybody 0 = .ok (.iconst 1, 1) := by decide +kernel
theorem dX0_everybody_1 : decode cX0_everybody 1 = .ok (.aload_n 0, 1) := by decide +kernel
theorem dX0_everybody_2 : decode cX0_everybody 2 = .ok (.getfield 18, 3) := by decide +kernel
theorem dX0_everybody_5 : decode cX0_everybody 5 = .ok (.ishl, 1) := by decide +kernel
theorem dX0_everybody_6 : decode cX0_everybody 6 = .ok (.iconst 1, 1) := by decide +kernel
theorem dX0_everybody_7 : decode cX0_everybody 7 = .ok (.isub, 1) := by decide +kernel
theorem dX0_everybody_8 : decode cX0_everybody 8 = .ok (.ireturn, 1) := by decide +kernel
theorem dX0_sum_0 : decode cX0_sum 0 = .ok (.iconst 0, 1) := by decide +kernel
theorem dX0_sum_1 : decode cX0_sum 1 = .ok (.istore_n 2, 1) := by decide +kernel
theorem dX0_sum_2 : decode cX0_sum 2 = .ok (.iconst 0, 1) := by decide +kernel
theorem dX0_sum_3 : decode cX0_sum 3 = .ok (.istore_n 3, 1) := by decide +kernel
theorem dX0_sum_4 : decode cX0_sum 4 = .ok (.iload_n 3, 1) := by decide +kernel
theorem dX0_sum_5 : decode cX0_sum 5 = .ok (.aload_n 0, 1) := by decide +kernel
theorem dX0_sum_6 : decode cX0_sum 6 = .ok (.getfield 18, 3) := by decide +kernel
theorem dX0_sum_9 : decode cX0_sum 9 = .ok (.if_icmp .ge 18, 3) := by decide +kernel
theorem dX0_sum_12 : decode cX0_sum 12 = .ok (.iload_n 2, 1) := by decide +kernel
theorem dX0_sum_13 : decode cX0_sum 13 = .ok (.aload_n 0, 1) := by decide +kernel
theorem dX0_sum_14 : decode cX0_sum 14 = .ok (.iload_n 3, 1) := by decide +kernel
theorem dX0_sum_15 : decode cX0_sum 15 = .ok (.iload_n 1, 1) := by decide +kernel
theorem dX0_sum_16 : decode cX0_sum 16 = .ok (.invokevirtual 39, 3) := by decide +kernel
theorem dX0_sum_19 : decode cX0_sum 19 = .ok (.iadd, 1) := by decide +kernel
theorem dX0_sum_20 : decode cX0_sum 20 = .ok (.istore_n 2, 1) := by decide +kernel
theorem dX0_sum_21 : decode cX0_sum 21 = .ok (.iinc 3 1, 3) := by decide +kernel
theorem dX0_sum_24 : decode cX0_sum 24 = .ok (.goto (-20), 3) := by decide +kernel
theorem dX0_sum_27 : decode cX0_sum 27 = .ok (.iload_n 2, 1) := by decide +kernel
theorem dX0_sum_28 : decode cX0_sum 28 = .ok (.ireturn, 1) := by decide +kernel
theorem dX0_whoHas_0 : decode cX0_whoHas 0 = .ok (.iconst 0, 1) := by decide +kernel
theorem dX0_whoHas_1 : decode cX0_whoHas 1 = .ok (.istore_n 3, 1) := by decide +kernel
theorem dX0_whoHas_2 : decode cX0_whoHas 2 = .ok (.iconst 0, 1) := by decide +kernel
theorem dX0_whoHas_3 : decode cX0_whoHas 3 = .ok (.istore 4, 2) := by decide +kernel
theorem dX0_whoHas_5 : decode cX0_whoHas 5 = .ok (.iload 4, 2) := by decide +kernel
theorem dX0_whoHas_7 : decode cX0_whoHas 7 = .ok (.aload_n 0, 1) := by decide +kernel
theorem dX0_whoHas_8 : decode cX0_whoHas 8 = .ok (.getfield 18, 3) := by decide +kernel
theorem dX0_whoHas_11 : decode cX0_whoHas 11 = .ok (.if_icmp .ge 27, 3) := by decide +kernel
theorem dX0_whoHas_14 : decode cX0_whoHas 14 = .ok (.aload_n 0, 1) := by decide +kernel
theorem dX0_whoHas_15 : decode cX0_whoHas 15 = .ok (.iload 4, 2) := by decide +kernel
theorem dX0_whoHas_17 : decode cX0_whoHas 17 = .ok (.iload_n 1, 1) := by decide +kernel
theorem dX0_whoHas_18 : decode cX0_whoHas 18 = .ok (.invokevirtual 39, 3) := by decide +kernel
theorem dX0_whoHas_21 : decode cX0_whoHas 21 = .ok (.iload_n 2, 1) := by decide +kernel
theorem dX0_whoHas_22 : decode cX0_whoHas 22 = .ok (.if_icmp .ne 10, 3) := by decide +kernel
theorem dX0_whoHas_25 : decode cX0_whoHas 25 = .ok (.iload_n 3, 1) := by decide +kernel
theorem dX0_whoHas_26 : decode cX0_whoHas 26 = .ok (.iconst 1, 1) := by decide +kernel
theorem dX0_whoHas_27 : decode cX0_whoHas 27 = .ok (.iload 4, 2) := by decide +kernel
theorem dX0_whoHas_29 : decode cX0_whoHas 29 = .ok (.ishl, 1) := by decide +kernel
theorem dX0_whoHas_30 : decode cX0_whoHas 30 = .ok (.ior, 1) := by decide +kernel
theorem dX0_whoHas_31 : decode cX0_whoHas 31 = .ok (.istore_n 3, 1) := by decide +kernel
theorem dX0_whoHas_32 : decode cX0_whoHas 32 = .ok (.iinc 4 1, 3) := by decide +kernel
theorem dX0_whoHas_35 : decode cX0_whoHas 35 = .ok (.goto (-30), 3) := by decide +kernel
theorem dX0_whoHas_38 : decode cX0_whoHas 38 = .ok (.iload_n 3, 1) := by decide +kernel
theorem dX0_whoHas_39 : decode cX0_whoHas 39 = .ok (.ireturn, 1) := by decide +kernel
theorem dX0_whoIsContent_0 : decode cX0_whoIsContent 0 = .ok (.iconst 0, 1) := by decide +kernel
theorem dX0_whoIsContent_1 : decode cX0_whoIsContent 1 = .ok (.istore_n 1, 1) := by decide +kernel
theorem dX0_whoIsContent_2 : decode cX0_whoIsContent 2 = .ok (.iconst 0, 1) := by decide +kernel
theorem dX0_whoIsContent_3 : decode cX0_whoIsContent 3 = .ok (.istore_n 2, 1) := by decide +kernel
theorem dX0_whoIsContent_4 : decode cX0_whoIsContent 4 = .ok (.iload_n 2, 1) := by decide +kernel
theorem dX0_whoIsContent_5 : decode cX0_whoIsContent 5 = .ok (.aload_n 0, 1) := by decide +kernel
theorem dX0_whoIsContent_6 : decode cX0_whoIsContent 6 = .ok (.getfield 18, 3) := by decide +kernel
theorem dX0_whoIsContent_9 : decode cX0_whoIsContent 9 = .ok (.if_icmp .ge 23, 3) := by decide +kernel
theorem dX0_whoIsContent_12 : decode cX0_whoIsContent 12 = .ok (.aload_n 0, 1) := by decide +kernel
theorem dX0_whoIsContent_13 : decode cX0_whoIsContent 13 = .ok (.iload_n 2, 1) := by decide +kernel
theorem dX0_whoIsContent_14 : decode cX0_whoIsContent 14 = .ok (.invokevirtual 43, 3) := by decide +kernel
theorem dX0_whoIsContent_17 : decode cX0_whoIsContent 17 = .ok (.ifCond .eq 9, 3) := by decide +kernel
theorem dX0_whoIsContent_20 : decode cX0_whoIsContent 20 = .ok (.iload_n 1, 1) := by decide +kernel
theorem dX0_whoIsContent_21 : decode cX0_whoIsContent 21 = .ok (.iconst 1, 1) := by decide +kernel
theorem dX0_whoIsContent_22 : decode cX0_whoIsContent 22 = .ok (.iload_n 2, 1) := by decide +kernel
theorem dX0_whoIsContent_23 : decode cX0_whoIsContent 23 = .ok (.ishl, 1) := by decide +kernel
theorem dX0_whoIsContent_24 : decode cX0_whoIsContent 24 = .ok (.ior, 1) := by decide +kernel
theorem dX0_whoIsContent_25 : decode cX0_whoIsContent 25 = .ok (.istore_n 1, 1) := by decide +kernel
theorem dX0_whoIsContent_26 : decode cX0_whoIsContent 26 = .ok (.iinc 2 1, 3) := by decide +kernel
theorem dX0_whoIsContent_29 : decode cX0_whoIsContent 29 = .ok (.goto (-25), 3) := by decide +kernel
theorem dX0_whoIsContent_32 : decode cX0_whoIsContent 32 = .ok (.iload_n 1, 1) := by decide +kernel
theorem dX0_whoIsContent_33 : decode cX0_whoIsContent 33 = .ok (.ireturn, 1) := by decide +kernel
theorem dX0_whoIsWaiting_0 : decode cX0_whoIsWaiting 0 = .ok (.iconst 0, 1) := by decide +kernel
theorem dX0_whoIsWaiting_1 : decode cX0_whoIsWaiting 1 = .ok (.istore_n 1, 1) := by decide +kernel
theorem dX0_whoIsWaiting_2 : decode cX0_whoIsWaiting 2 = .ok (.iconst 0, 1) := by decide +kernel
theorem dX0_whoIsWaiting_3 : decode cX0_whoIsWaiting 3 = .ok (.istore_n 2, 1) := by decide +kernel
theorem dX0_whoIsWaiting_4 : decode cX0_whoIsWaiting 4 = .ok (.iload_n 2, 1) := by decide +kernel
theorem dX0_whoIsWaiting_5 : decode cX0_whoIsWaiting 5 = .ok (.aload_n 0, 1) := by decide +kernel
theorem dX0_whoIsWaiting_6 : decode cX0_whoIsWaiting 6 = .ok (.getfield 18, 3) := by decide +kernel
theorem dX0_whoIsWaiting_9 : decode cX0_whoIsWaiting 9 = .ok (.if_icmp .ge 23, 3) := by decide +kernel
theorem dX0_whoIsWaiting_12 : decode cX0_whoIsWaiting 12 = .ok (.aload_n 0, 1) := by decide +kernel
theorem dX0_whoIsWaiting_13 : decode cX0_whoIsWaiting 13 = .ok (.iload_n 2, 1) := by decide +kernel
theorem dX0_whoIsWaiting_14 : decode cX0_whoIsWaiting 14 = .ok (.invokevirtual 47, 3) := by decide +kernel
theorem dX0_whoIsWaiting_17 : decode cX0_whoIsWaiting 17 = .ok (.ifCond .eq 9, 3) := by decide +kernel
theorem dX0_whoIsWaiting_20 : decode cX0_whoIsWaiting 20 = .ok (.iload_n 1, 1) := by decide +kernel
theorem dX0_whoIsWaiting_21 : decode cX0_whoIsWaiting 21 = .ok (.iconst 1, 1) := by decide +kernel
theorem dX0_whoIsWaiting_22 : decode cX0_whoIsWaiting 22 = .ok (.iload_n 2, 1) := by decide +kernel
theorem dX0_whoIsWaiting_23 : decode cX0_whoIsWaiting 23 = .ok (.ishl, 1) := by decide +kernel
theorem dX0_whoIsWaiting_24 : decode cX0_whoIsWaiting 24 = .ok (.ior, 1) := by decide +kernel
theorem dX0_whoIsWaiting_25 : decode cX0_whoIsWaiting 25 = .ok (.istore_n 1, 1) := by decide +kernel
theorem dX0_whoIsWaiting_26 : decode cX0_whoIsWaiting 26 = .ok (.iinc 2 1, 3) := by decide +kernel
theorem dX0_whoIsWaiting_29 : decode cX0_whoIsWaiting 29 = .ok (.goto (-25), 3) := by decide +kernel
theorem dX0_whoIsWaiting_32 : decode cX0_whoIsWaiting 32 = .ok (.iload_n 1, 1) := by decide +kernel
theorem dX0_whoIsWaiting_33 : decode cX0_whoIsWaiting 33 = .ok (.ireturn, 1) := by decide +kernel
theorem dX0_whoIsSeen_0 : decode cX0_whoIsSeen 0 = .ok (.iconst 0, 1) := by decide +kernel
theorem dX0_whoIsSeen_1 : decode cX0_whoIsSeen 1 = .ok (.istore_n 1, 1) := by decide +kernel
theorem dX0_whoIsSeen_2 : decode cX0_whoIsSeen 2 = .ok (.iconst 0, 1) := by decide +kernel
theorem dX0_whoIsSeen_3 : decode cX0_whoIsSeen 3 = .ok (.istore_n 2, 1) := by decide +kernel
theorem dX0_whoIsSeen_4 : decode cX0_whoIsSeen 4 = .ok (.iload_n 2, 1) := by decide +kernel
theorem dX0_whoIsSeen_5 : decode cX0_whoIsSeen 5 = .ok (.aload_n 0, 1) := by decide +kernel
theorem dX0_whoIsSeen_6 : decode cX0_whoIsSeen 6 = .ok (.getfield 18, 3) := by decide +kernel
theorem dX0_whoIsSeen_9 : decode cX0_whoIsSeen 9 = .ok (.if_icmp .ge 23, 3) := by decide +kernel
theorem dX0_whoIsSeen_12 : decode cX0_whoIsSeen 12 = .ok (.aload_n 0, 1) := by decide +kernel
theorem dX0_whoIsSeen_13 : decode cX0_whoIsSeen 13 = .ok (.iload_n 2, 1) := by decide +kernel
theorem dX0_whoIsSeen_14 : decode cX0_whoIsSeen 14 = .ok (.invokevirtual 50, 3) := by decide +kernel
theorem dX0_whoIsSeen_17 : decode cX0_whoIsSeen 17 = .ok (.ifCond .eq 9, 3) := by decide +kernel
theorem dX0_whoIsSeen_20 : decode cX0_whoIsSeen 20 = .ok (.iload_n 1, 1) := by decide +kernel
theorem dX0_whoIsSeen_21 : decode cX0_whoIsSeen 21 = .ok (.iconst 1, 1) := by decide +kernel
theorem dX0_whoIsSeen_22 : decode cX0_whoIsSeen 22 = .ok (.iload_n 2, 1) := by decide +kernel
theorem dX0_whoIsSeen_23 : decode cX0_whoIsSeen 23 = .ok (.ishl, 1) := by decide +kernel
theorem dX0_whoIsSeen_24 : decode cX0_whoIsSeen 24 = .ok (.ior, 1) := by decide +kernel
theorem dX0_whoIsSeen_25 : decode cX0_whoIsSeen 25 = .ok (.istore_n 1, 1) := by decide +kernel
theorem dX0_whoIsSeen_26 : decode cX0_whoIsSeen 26 = .ok (.iinc 2 1, 3) := by decide +kernel
theorem dX0_whoIsSeen_29 : decode cX0_whoIsSeen 29 = .ok (.goto (-25), 3) := by decide +kernel
theorem dX0_whoIsSeen_32 : decode cX0_whoIsSeen 32 = .ok (.iload_n 1, 1) := by decide +kernel
theorem dX0_whoIsSeen_33 : decode cX0_whoIsSeen 33 = .ok (.ireturn, 1) := by decide +kernel
theorem dX0_howManyContent_0 : decode cX0_howManyContent 0 = .ok (.aload_n 0, 1) := by decide +kernel
theorem dX0_howManyContent_1 : decode cX0_howManyContent 1 = .ok (.invokevirtual 54, 3) := by decide +kernel
theorem dX0_howManyContent_4 : decode cX0_howManyContent 4 = .ok (.invokestatic 57, 3) := by decide +kernel
theorem dX0_howManyContent_7 : decode cX0_howManyContent 7 = .ok (.ireturn, 1) := by decide +kernel
theorem dX0_look_0 : decode cX0_look 0 = .ok (.bipush 100, 2) := by decide +kernel
theorem dX0_look_2 : decode cX0_look 2 = .ok (.aload_n 0, 1) := by decide +kernel
theorem dX0_look_3 : decode cX0_look 3 = .ok (.iload_n 1, 1) := by decide +kernel
theorem dX0_look_4 : decode cX0_look 4 = .ok (.iconst 2, 1) := by decide +kernel
theorem dX0_look_5 : decode cX0_look 5 = .ok (.invokevirtual 39, 3) := by decide +kernel
theorem dX0_look_8 : decode cX0_look 8 = .ok (.imul, 1) := by decide +kernel
theorem dX0_look_9 : decode cX0_look 9 = .ok (.aload_n 0, 1) := by decide +kernel
theorem dX0_look_10 : decode cX0_look 10 = .ok (.iload_n 1, 1) := by decide +kernel
theorem dX0_look_11 : decode cX0_look 11 = .ok (.iconst 3, 1) := by decide +kernel
theorem dX0_look_12 : decode cX0_look 12 = .ok (.invokevirtual 39, 3) := by decide +kernel
theorem dX0_look_15 : decode cX0_look 15 = .ok (.iadd, 1) := by decide +kernel
theorem dX0_look_16 : decode cX0_look 16 = .ok (.ireturn, 1) := by decide +kernel
theorem dX0_lampsOn_0 : decode cX0_lampsOn 0 = .ok (.aload_n 0, 1) := by decide +kernel
theorem dX0_lampsOn_1 : decode cX0_lampsOn 1 = .ok (.iload_n 1, 1) := by decide +kernel
theorem dX0_lampsOn_2 : decode cX0_lampsOn 2 = .ok (.iconst 1, 1) := by decide +kernel
theorem dX0_lampsOn_3 : decode cX0_lampsOn 3 = .ok (.invokevirtual 39, 3) := by decide +kernel
theorem dX0_lampsOn_6 : decode cX0_lampsOn 6 = .ok (.istore_n 2, 1) := by decide +kernel
theorem dX0_lampsOn_7 : decode cX0_lampsOn 7 = .ok (.aload_n 0, 1) := by decide +kernel
theorem dX0_lampsOn_8 : decode cX0_lampsOn 8 = .ok (.iload_n 1, 1) := by decide +kernel
theorem dX0_lampsOn_9 : decode cX0_lampsOn 9 = .ok (.iconst 2, 1) := by decide +kernel
theorem dX0_lampsOn_10 : decode cX0_lampsOn 10 = .ok (.invokevirtual 39, 3) := by decide +kernel
theorem dX0_lampsOn_13 : decode cX0_lampsOn 13 = .ok (.istore_n 3, 1) := by decide +kernel
theorem dX0_lampsOn_14 : decode cX0_lampsOn 14 = .ok (.iconst 0, 1) := by decide +kernel
theorem dX0_lampsOn_15 : decode cX0_lampsOn 15 = .ok (.istore 4, 2) := by decide +kernel
theorem dX0_lampsOn_17 : decode cX0_lampsOn 17 = .ok (.iconst 0, 1) := by decide +kernel
theorem dX0_lampsOn_18 : decode cX0_lampsOn 18 = .ok (.istore 5, 2) := by decide +kernel
theorem dX0_lampsOn_20 : decode cX0_lampsOn 20 = .ok (.iload 5, 2) := by decide +kernel
theorem dX0_lampsOn_22 : decode cX0_lampsOn 22 = .ok (.aload_n 0, 1) := by decide +kernel
theorem dX0_lampsOn_23 : decode cX0_lampsOn 23 = .ok (.getfield 18, 3) := by decide +kernel
theorem dX0_lampsOn_26 : decode cX0_lampsOn 26 = .ok (.if_icmp .ge 56, 3) := by decide +kernel
theorem dX0_lampsOn_29 : decode cX0_lampsOn 29 = .ok (.aload_n 0, 1) := by decide +kernel
theorem dX0_lampsOn_30 : decode cX0_lampsOn 30 = .ok (.iload 5, 2) := by decide +kernel
theorem dX0_lampsOn_32 : decode cX0_lampsOn 32 = .ok (.iconst 4, 1) := by decide +kernel
theorem dX0_lampsOn_33 : decode cX0_lampsOn 33 = .ok (.invokevirtual 39, 3) := by decide +kernel
theorem dX0_lampsOn_36 : decode cX0_lampsOn 36 = .ok (.iconst 1, 1) := by decide +kernel
theorem dX0_lampsOn_37 : decode cX0_lampsOn 37 = .ok (.if_icmp .ne 39, 3) := by decide +kernel
theorem dX0_lampsOn_40 : decode cX0_lampsOn 40 = .ok (.aload_n 0, 1) := by decide +kernel
theorem dX0_lampsOn_41 : decode cX0_lampsOn 41 = .ok (.iload 5, 2) := by decide +kernel
theorem dX0_lampsOn_43 : decode cX0_lampsOn 43 = .ok (.iconst 1, 1) := by decide +kernel
theorem dX0_lampsOn_44 : decode cX0_lampsOn 44 = .ok (.invokevirtual 39, 3) := by decide +kernel
theorem dX0_lampsOn_47 : decode cX0_lampsOn 47 = .ok (.iload_n 2, 1) := by decide +kernel
theorem dX0_lampsOn_48 : decode cX0_lampsOn 48 = .ok (.if_icmp .ne 28, 3) := by decide +kernel
theorem dX0_lampsOn_51 : decode cX0_lampsOn 51 = .ok (.aload_n 0, 1) := by decide +kernel
theorem dX0_lampsOn_52 : decode cX0_lampsOn 52 = .ok (.iload 5, 2) := by decide +kernel
theorem dX0_lampsOn_54 : decode cX0_lampsOn 54 = .ok (.iconst 2, 1) := by decide +kernel
theorem dX0_lampsOn_55 : decode cX0_lampsOn 55 = .ok (.invokevirtual 39, 3) := by decide +kernel
theorem dX0_lampsOn_58 : decode cX0_lampsOn 58 = .ok (.iload_n 3, 1) := by decide +kernel
theorem dX0_lampsOn_59 : decode cX0_lampsOn 59 = .ok (.isub, 1) := by decide +kernel
theorem dX0_lampsOn_60 : decode cX0_lampsOn 60 = .ok (.invokestatic 62, 3) := by decide +kernel
theorem dX0_lampsOn_63 : decode cX0_lampsOn 63 = .ok (.iconst 3, 1) := by decide +kernel
theorem dX0_lampsOn_64 : decode cX0_lampsOn 64 = .ok (.if_icmp .gt 12, 3) := by decide +kernel
theorem dX0_lampsOn_67 : decode cX0_lampsOn 67 = .ok (.iload 4, 2) := by decide +kernel
theorem dX0_lampsOn_69 : decode cX0_lampsOn 69 = .ok (.iconst 1, 1) := by decide +kernel
theorem dX0_lampsOn_70 : decode cX0_lampsOn 70 = .ok (.iload 5, 2) := by decide +kernel
theorem dX0_lampsOn_72 : decode cX0_lampsOn 72 = .ok (.ishl, 1) := by decide +kernel
theorem dX0_lampsOn_73 : decode cX0_lampsOn 73 = .ok (.ior, 1) := by decide +kernel
theorem dX0_lampsOn_74 : decode cX0_lampsOn 74 = .ok (.istore 4, 2) := by decide +kernel
theorem dX0_lampsOn_76 : decode cX0_lampsOn 76 = .ok (.iinc 5 1, 3) := by decide +kernel
theorem dX0_lampsOn_79 : decode cX0_lampsOn 79 = .ok (.goto (-59), 3) := by decide +kernel
theorem dX0_lampsOn_82 : decode cX0_lampsOn 82 = .ok (.iload 4, 2) := by decide +kernel
theorem dX0_lampsOn_84 : decode cX0_lampsOn 84 = .ok (.ireturn, 1) := by decide +kernel
theorem dX0_isSeenByAnother_0 : decode cX0_isSeenByAnother 0 = .ok (.aload_n 0, 1) := by decide +kernel
theorem dX0_isSeenByAnother_1 : decode cX0_isSeenByAnother 1 = .ok (.iload_n 1, 1) := by decide +kernel
theorem dX0_isSeenByAnother_2 : decode cX0_isSeenByAnother 2 = .ok (.invokevirtual 50, 3) := by decide +kernel
theorem dX0_isSeenByAnother_5 : decode cX0_isSeenByAnother 5 = .ok (.iconst 1, 1) := by decide +kernel
theorem dX0_isSeenByAnother_6 : decode cX0_isSeenByAnother 6 = .ok (.iload_n 1, 1) := by decide +kernel
theorem dX0_isSeenByAnother_7 : decode cX0_isSeenByAnother 7 = .ok (.ishl, 1) := by decide +kernel
theorem dX0_isSeenByAnother_8 : decode cX0_isSeenByAnother 8 = .ok (.iconst (-1), 1) := by decide +kernel
theorem dX0_isSeenByAnother_9 : decode cX0_isSeenByAnother 9 = .ok (.ixor, 1) := by decide +kernel
theorem dX0_isSeenByAnother_10 : decode cX0_isSeenByAnother 10 = .ok (.iand, 1) := by decide +kernel
theorem dX0_isSeenByAnother_11 : decode cX0_isSeenByAnother 11 = .ok (.ifCond .eq 7, 3) := by decide +kernel
theorem dX0_isSeenByAnother_14 : decode cX0_isSeenByAnother 14 = .ok (.iconst 1, 1) := by decide +kernel
theorem dX0_isSeenByAnother_15 : decode cX0_isSeenByAnother 15 = .ok (.goto 4, 3) := by decide +kernel
theorem dX0_isSeenByAnother_18 : decode cX0_isSeenByAnother 18 = .ok (.iconst 0, 1) := by decide +kernel
theorem dX0_isSeenByAnother_19 : decode cX0_isSeenByAnother 19 = .ok (.ireturn, 1) := by decide +kernel
theorem dX0_isContent_0 : decode cX0_isContent 0 = .ok (.aload_n 0, 1) := by decide +kernel
theorem dX0_isContent_1 : decode cX0_isContent 1 = .ok (.iload_n 1, 1) := by decide +kernel
theorem dX0_isContent_2 : decode cX0_isContent 2 = .ok (.bipush 6, 2) := by decide +kernel
theorem dX0_isContent_4 : decode cX0_isContent 4 = .ok (.invokevirtual 39, 3) := by decide +kernel
theorem dX0_isContent_7 : decode cX0_isContent 7 = .ok (.istore_n 2, 1) := by decide +kernel
theorem dX0_isContent_8 : decode cX0_isContent 8 = .ok (.aload_n 0, 1) := by decide +kernel
theorem dX0_isContent_9 : decode cX0_isContent 9 = .ok (.iload_n 2, 1) := by decide +kernel
theorem dX0_isContent_10 : decode cX0_isContent 10 = .ok (.invokevirtual 67, 3) := by decide +kernel
theorem dX0_isContent_13 : decode cX0_isContent 13 = .ok (.ifCond .ne 23, 3) := by decide +kernel
theorem dX0_isContent_16 : decode cX0_isContent 16 = .ok (.iload_n 2, 1) := by decide +kernel
theorem dX0_isContent_17 : decode cX0_isContent 17 = .ok (.iload_n 1, 1) := by decide +kernel
theorem dX0_isContent_18 : decode cX0_isContent 18 = .ok (.if_icmp .eq 18, 3) := by decide +kernel
theorem dX0_isContent_21 : decode cX0_isContent 21 = .ok (.aload_n 0, 1) := by decide +kernel
theorem dX0_isContent_22 : decode cX0_isContent 22 = .ok (.iload_n 2, 1) := by decide +kernel
theorem dX0_isContent_23 : decode cX0_isContent 23 = .ok (.iconst 1, 1) := by decide +kernel
theorem dX0_isContent_24 : decode cX0_isContent 24 = .ok (.invokevirtual 39, 3) := by decide +kernel
theorem dX0_isContent_27 : decode cX0_isContent 27 = .ok (.aload_n 0, 1) := by decide +kernel
theorem dX0_isContent_28 : decode cX0_isContent 28 = .ok (.iload_n 1, 1) := by decide +kernel
theorem dX0_isContent_29 : decode cX0_isContent 29 = .ok (.iconst 1, 1) := by decide +kernel
theorem dX0_isContent_30 : decode cX0_isContent 30 = .ok (.invokevirtual 39, 3) := by decide +kernel
theorem dX0_isContent_33 : decode cX0_isContent 33 = .ok (.if_icmp .eq 7, 3) := by decide +kernel
theorem dX0_isContent_36 : decode cX0_isContent 36 = .ok (.iconst 1, 1) := by decide +kernel
theorem dX0_isContent_37 : decode cX0_isContent 37 = .ok (.goto 4, 3) := by decide +kernel
theorem dX0_isContent_40 : decode cX0_isContent 40 = .ok (.iconst 0, 1) := by decide +kernel
theorem dX0_isContent_41 : decode cX0_isContent 41 = .ok (.istore_n 3, 1) := by decide +kernel
theorem dX0_isContent_42 : decode cX0_isContent 42 = .ok (.aload_n 0, 1) := by decide +kernel
theorem dX0_isContent_43 : decode cX0_isContent 43 = .ok (.iload_n 2, 1) := by decide +kernel
theorem dX0_isContent_44 : decode cX0_isContent 44 = .ok (.iconst 2, 1) := by decide +kernel
theorem dX0_isContent_45 : decode cX0_isContent 45 = .ok (.invokevirtual 39, 3) := by decide +kernel
theorem dX0_isContent_48 : decode cX0_isContent 48 = .ok (.aload_n 0, 1) := by decide +kernel
theorem dX0_isContent_49 : decode cX0_isContent 49 = .ok (.iload_n 1, 1) := by decide +kernel
theorem dX0_isContent_50 : decode cX0_isContent 50 = .ok (.iconst 2, 1) := by decide +kernel
theorem dX0_isContent_51 : decode cX0_isContent 51 = .ok (.invokevirtual 39, 3) := by decide +kernel
theorem dX0_isContent_54 : decode cX0_isContent 54 = .ok (.isub, 1) := by decide +kernel
theorem dX0_isContent_55 : decode cX0_isContent 55 = .ok (.invokestatic 62, 3) := by decide +kernel
theorem dX0_isContent_58 : decode cX0_isContent 58 = .ok (.istore 4, 2) := by decide +kernel
theorem dX0_isContent_60 : decode cX0_isContent 60 = .ok (.aload_n 0, 1) := by decide +kernel
theorem dX0_isContent_61 : decode cX0_isContent 61 = .ok (.iload_n 1, 1) := by decide +kernel
theorem dX0_isContent_62 : decode cX0_isContent 62 = .ok (.iconst 5, 1) := by decide +kernel
theorem dX0_isContent_63 : decode cX0_isContent 63 = .ok (.invokevirtual 39, 3) := by decide +kernel
theorem dX0_isContent_66 : decode cX0_isContent 66 = .ok (.tableswitch 95 0 3 #[30, 47, 63, 80], 30) := by decide +kernel
theorem dX0_isContent_96 : decode cX0_isContent 96 = .ok (.aload_n 0, 1) := by decide +kernel
theorem dX0_isContent_97 : decode cX0_isContent 97 = .ok (.iload_n 1, 1) := by decide +kernel
theorem dX0_isContent_98 : decode cX0_isContent 98 = .ok (.iconst 3, 1) := by decide +kernel
theorem dX0_isContent_99 : decode cX0_isContent 99 = .ok (.invokevirtual 39, 3) := by decide +kernel
theorem dX0_isContent_102 : decode cX0_isContent 102 = .ok (.bipush 10, 2) := by decide +kernel
theorem dX0_isContent_104 : decode cX0_isContent 104 = .ok (.if_icmp .gt 7, 3) := by decide +kernel
theorem dX0_isContent_107 : decode cX0_isContent 107 = .ok (.iconst 1, 1) := by decide +kernel
theorem dX0_isContent_108 : decode cX0_isContent 108 = .ok (.goto 4, 3) := by decide +kernel
theorem dX0_isContent_111 : decode cX0_isContent 111 = .ok (.iconst 0, 1) := by decide +kernel
theorem dX0_isContent_112 : decode cX0_isContent 112 = .ok (.ireturn, 1) := by decide +kernel
theorem dX0_isContent_113 : decode cX0_isContent 113 = .ok (.iload_n 3, 1) := by decide +kernel
theorem dX0_isContent_114 : decode cX0_isContent 114 = .ok (.ifCond .ne 9, 3) := by decide +kernel
theorem dX0_isContent_117 : decode cX0_isContent 117 = .ok (.iload 4, 2) := by decide +kernel
theorem dX0_isContent_119 : decode cX0_isContent 119 = .ok (.iconst 1, 1) := by decide +kernel
theorem dX0_isContent_120 : decode cX0_isContent 120 = .ok (.if_icmp .gt 7, 3) := by decide +kernel
theorem dX0_isContent_123 : decode cX0_isContent 123 = .ok (.iconst 1, 1) := by decide +kernel
theorem dX0_isContent_124 : decode cX0_isContent 124 = .ok (.goto 4, 3) := by decide +kernel
theorem dX0_isContent_127 : decode cX0_isContent 127 = .ok (.iconst 0, 1) := by decide +kernel
theorem dX0_isContent_128 : decode cX0_isContent 128 = .ok (.ireturn, 1) := by decide +kernel
theorem dX0_isContent_129 : decode cX0_isContent 129 = .ok (.iload_n 3, 1) := by decide +kernel
theorem dX0_isContent_130 : decode cX0_isContent 130 = .ok (.ifCond .ne 10, 3) := by decide +kernel
theorem dX0_isContent_133 : decode cX0_isContent 133 = .ok (.iload 4, 2) := by decide +kernel
theorem dX0_isContent_135 : decode cX0_isContent 135 = .ok (.bipush 10, 2) := by decide +kernel
theorem dX0_isContent_137 : decode cX0_isContent 137 = .ok (.if_icmp .lt 7, 3) := by decide +kernel
theorem dX0_isContent_140 : decode cX0_isContent 140 = .ok (.iconst 1, 1) := by decide +kernel
theorem dX0_isContent_141 : decode cX0_isContent 141 = .ok (.goto 4, 3) := by decide +kernel
theorem dX0_isContent_144 : decode cX0_isContent 144 = .ok (.iconst 0, 1) := by decide +kernel
theorem dX0_isContent_145 : decode cX0_isContent 145 = .ok (.ireturn, 1) := by decide +kernel
theorem dX0_isContent_146 : decode cX0_isContent 146 = .ok (.aload_n 0, 1) := by decide +kernel
theorem dX0_isContent_147 : decode cX0_isContent 147 = .ok (.iload_n 1, 1) := by decide +kernel
theorem dX0_isContent_148 : decode cX0_isContent 148 = .ok (.iconst 4, 1) := by decide +kernel
theorem dX0_isContent_149 : decode cX0_isContent 149 = .ok (.invokevirtual 39, 3) := by decide +kernel
theorem dX0_isContent_152 : decode cX0_isContent 152 = .ok (.ifCond .ne 7, 3) := by decide +kernel
theorem dX0_isContent_155 : decode cX0_isContent 155 = .ok (.iconst 1, 1) := by decide +kernel
theorem dX0_isContent_156 : decode cX0_isContent 156 = .ok (.goto 4, 3) := by decide +kernel
theorem dX0_isContent_159 : decode cX0_isContent 159 = .ok (.iconst 0, 1) := by decide +kernel
theorem dX0_isContent_160 : decode cX0_isContent 160 = .ok (.ireturn, 1) := by decide +kernel
theorem dX0_isContent_161 : decode cX0_isContent 161 = .ok (.aload_n 0, 1) := by decide +kernel
theorem dX0_isContent_162 : decode cX0_isContent 162 = .ok (.iload_n 1, 1) := by decide +kernel
theorem dX0_isContent_163 : decode cX0_isContent 163 = .ok (.iconst 4, 1) := by decide +kernel
theorem dX0_isContent_164 : decode cX0_isContent 164 = .ok (.invokevirtual 39, 3) := by decide +kernel
theorem dX0_isContent_167 : decode cX0_isContent 167 = .ok (.iconst 1, 1) := by decide +kernel
theorem dX0_isContent_168 : decode cX0_isContent 168 = .ok (.if_icmp .ne 7, 3) := by decide +kernel
theorem dX0_isContent_171 : decode cX0_isContent 171 = .ok (.iconst 1, 1) := by decide +kernel
theorem dX0_isContent_172 : decode cX0_isContent 172 = .ok (.goto 4, 3) := by decide +kernel
theorem dX0_isContent_175 : decode cX0_isContent 175 = .ok (.iconst 0, 1) := by decide +kernel
theorem dX0_isContent_176 : decode cX0_isContent 176 = .ok (.ireturn, 1) := by decide +kernel
theorem dX0_rubs_0 : decode cX0_rubs 0 = .ok (.aload_n 0, 1) := by decide +kernel
theorem dX0_rubs_1 : decode cX0_rubs 1 = .ok (.invokevirtual 70, 3) := by decide +kernel
theorem dX0_rubs_4 : decode cX0_rubs 4 = .ok (.ifCond .eq 7, 3) := by decide +kernel
theorem dX0_rubs_7 : decode cX0_rubs 7 = .ok (.iconst 2, 1) := by decide +kernel
theorem dX0_rubs_8 : decode cX0_rubs 8 = .ok (.goto 4, 3) := by decide +kernel
theorem dX0_rubs_11 : decode cX0_rubs 11 = .ok (.iconst 4, 1) := by decide +kernel
theorem dX0_rubs_12 : decode cX0_rubs 12 = .ok (.istore_n 2, 1) := by decide +kernel
theorem dX0_rubs_13 : decode cX0_rubs 13 = .ok (.iload_n 2, 1) := by decide +kernel
theorem dX0_rubs_14 : decode cX0_rubs 14 = .ok (.aload_n 0, 1) := by decide +kernel
theorem dX0_rubs_15 : decode cX0_rubs 15 = .ok (.iload_n 1, 1) := by decide +kernel
theorem dX0_rubs_16 : decode cX0_rubs 16 = .ok (.iconst 3, 1) := by decide +kernel
theorem dX0_rubs_17 : decode cX0_rubs 17 = .ok (.invokevirtual 39, 3) := by decide +kernel
theorem dX0_rubs_20 : decode cX0_rubs 20 = .ok (.bipush 20, 2) := by decide +kernel
theorem dX0_rubs_22 : decode cX0_rubs 22 = .ok (.idiv, 1) := by decide +kernel
theorem dX0_rubs_23 : decode cX0_rubs 23 = .ok (.iadd, 1) := by decide +kernel
theorem dX0_rubs_24 : decode cX0_rubs 24 = .ok (.istore_n 3, 1) := by decide +kernel
theorem dX0_rubs_25 : decode cX0_rubs 25 = .ok (.aload_n 0, 1) := by decide +kernel
theorem dX0_rubs_26 : decode cX0_rubs 26 = .ok (.iload_n 1, 1) := by decide +kernel
theorem dX0_rubs_27 : decode cX0_rubs 27 = .ok (.iconst 0, 1) := by decide +kernel
theorem dX0_rubs_28 : decode cX0_rubs 28 = .ok (.invokevirtual 39, 3) := by decide +kernel
theorem dX0_rubs_31 : decode cX0_rubs 31 = .ok (.tableswitch 71 1 5 #[33, 71, 35, 37, 52], 33) := by decide +kernel
theorem dX0_rubs_64 : decode cX0_rubs 64 = .ok (.iload_n 3, 1) := by decide +kernel
theorem dX0_rubs_65 : decode cX0_rubs 65 = .ok (.ireturn, 1) := by decide +kernel
theorem dX0_rubs_66 : decode cX0_rubs 66 = .ok (.iconst 0, 1) := by decide +kernel
theorem dX0_rubs_67 : decode cX0_rubs 67 = .ok (.ireturn, 1) := by decide +kernel
theorem dX0_rubs_68 : decode cX0_rubs 68 = .ok (.aload_n 0, 1) := by decide +kernel
theorem dX0_rubs_69 : decode cX0_rubs 69 = .ok (.invokevirtual 70, 3) := by decide +kernel
theorem dX0_rubs_72 : decode cX0_rubs 72 = .ok (.ifCond .eq 7, 3) := by decide +kernel
theorem dX0_rubs_75 : decode cX0_rubs 75 = .ok (.iload_n 3, 1) := by decide +kernel
theorem dX0_rubs_76 : decode cX0_rubs 76 = .ok (.goto 6, 3) := by decide +kernel
theorem dX0_rubs_79 : decode cX0_rubs 79 = .ok (.iconst 2, 1) := by decide +kernel
theorem dX0_rubs_80 : decode cX0_rubs 80 = .ok (.iload_n 3, 1) := by decide +kernel
theorem dX0_rubs_81 : decode cX0_rubs 81 = .ok (.imul, 1) := by decide +kernel
theorem dX0_rubs_82 : decode cX0_rubs 82 = .ok (.ireturn, 1) := by decide +kernel
theorem dX0_rubs_83 : decode cX0_rubs 83 = .ok (.iload_n 2, 1) := by decide +kernel
theorem dX0_rubs_84 : decode cX0_rubs 84 = .ok (.aload_n 0, 1) := by decide +kernel
theorem dX0_rubs_85 : decode cX0_rubs 85 = .ok (.iconst 1, 1) := by decide +kernel
theorem dX0_rubs_86 : decode cX0_rubs 86 = .ok (.aload_n 0, 1) := by decide +kernel
theorem dX0_rubs_87 : decode cX0_rubs 87 = .ok (.iload_n 1, 1) := by decide +kernel
theorem dX0_rubs_88 : decode cX0_rubs 88 = .ok (.iconst 1, 1) := by decide +kernel
theorem dX0_rubs_89 : decode cX0_rubs 89 = .ok (.invokevirtual 39, 3) := by decide +kernel
theorem dX0_rubs_92 : decode cX0_rubs 92 = .ok (.invokevirtual 74, 3) := by decide +kernel
theorem dX0_rubs_95 : decode cX0_rubs 95 = .ok (.invokestatic 57, 3) := by decide +kernel
theorem dX0_rubs_98 : decode cX0_rubs 98 = .ok (.iadd, 1) := by decide +kernel
theorem dX0_rubs_99 : decode cX0_rubs 99 = .ok (.iconst 1, 1) := by decide +kernel
theorem dX0_rubs_100 : decode cX0_rubs 100 = .ok (.isub, 1) := by decide +kernel
theorem dX0_rubs_101 : decode cX0_rubs 101 = .ok (.ireturn, 1) := by decide +kernel
theorem dX0_rubs_102 : decode cX0_rubs 102 = .ok (.iload_n 2, 1) := by decide +kernel
theorem dX0_rubs_103 : decode cX0_rubs 103 = .ok (.ireturn, 1) := by decide +kernel
theorem dX0_isWaiting_0 : decode cX0_isWaiting 0 = .ok (.aload_n 0, 1) := by decide +kernel
theorem dX0_isWaiting_1 : decode cX0_isWaiting 1 = .ok (.iload_n 1, 1) := by decide +kernel
theorem dX0_isWaiting_2 : decode cX0_isWaiting 2 = .ok (.iconst 0, 1) := by decide +kernel
theorem dX0_isWaiting_3 : decode cX0_isWaiting 3 = .ok (.invokevirtual 39, 3) := by decide +kernel
theorem dX0_isWaiting_6 : decode cX0_isWaiting 6 = .ok (.tableswitch 99 1 5 #[34, 40, 53, 55, 78], 34) := by decide +kernel
theorem dX0_isWaiting_40 : decode cX0_isWaiting 40 = .ok (.aload_n 0, 1) := by decide +kernel
theorem dX0_isWaiting_41 : decode cX0_isWaiting 41 = .ok (.iload_n 1, 1) := by decide +kernel
theorem dX0_isWaiting_42 : decode cX0_isWaiting 42 = .ok (.invokevirtual 77, 3) := by decide +kernel
theorem dX0_isWaiting_45 : decode cX0_isWaiting 45 = .ok (.ireturn, 1) := by decide +kernel
theorem dX0_isWaiting_46 : decode cX0_isWaiting 46 = .ok (.aload_n 0, 1) := by decide +kernel
theorem dX0_isWaiting_47 : decode cX0_isWaiting 47 = .ok (.invokevirtual 35, 3) := by decide +kernel
theorem dX0_isWaiting_50 : decode cX0_isWaiting 50 = .ok (.ifCond .ne 7, 3) := by decide +kernel
theorem dX0_isWaiting_53 : decode cX0_isWaiting 53 = .ok (.iconst 1, 1) := by decide +kernel
theorem dX0_isWaiting_54 : decode cX0_isWaiting 54 = .ok (.goto 4, 3) := by decide +kernel
theorem dX0_isWaiting_57 : decode cX0_isWaiting 57 = .ok (.iconst 0, 1) := by decide +kernel
theorem dX0_isWaiting_58 : decode cX0_isWaiting 58 = .ok (.ireturn, 1) := by decide +kernel
theorem dX0_isWaiting_59 : decode cX0_isWaiting 59 = .ok (.iconst 1, 1) := by decide +kernel
theorem dX0_isWaiting_60 : decode cX0_isWaiting 60 = .ok (.ireturn, 1) := by decide +kernel
theorem dX0_isWaiting_61 : decode cX0_isWaiting 61 = .ok (.aload_n 0, 1) := by decide +kernel
theorem dX0_isWaiting_62 : decode cX0_isWaiting 62 = .ok (.invokevirtual 35, 3) := by decide +kernel
theorem dX0_isWaiting_65 : decode cX0_isWaiting 65 = .ok (.iconst 2, 1) := by decide +kernel
theorem dX0_isWaiting_66 : decode cX0_isWaiting 66 = .ok (.irem, 1) := by decide +kernel
theorem dX0_isWaiting_67 : decode cX0_isWaiting 67 = .ok (.ifCond .eq 15, 3) := by decide +kernel
theorem dX0_isWaiting_70 : decode cX0_isWaiting 70 = .ok (.aload_n 0, 1) := by decide +kernel
theorem dX0_isWaiting_71 : decode cX0_isWaiting 71 = .ok (.iload_n 1, 1) := by decide +kernel
theorem dX0_isWaiting_72 : decode cX0_isWaiting 72 = .ok (.invokevirtual 77, 3) := by decide +kernel
theorem dX0_isWaiting_75 : decode cX0_isWaiting 75 = .ok (.ifCond .eq 7, 3) := by decide +kernel
theorem dX0_isWaiting_78 : decode cX0_isWaiting 78 = .ok (.iconst 1, 1) := by decide +kernel
theorem dX0_isWaiting_79 : decode cX0_isWaiting 79 = .ok (.goto 4, 3) := by decide +kernel
theorem dX0_isWaiting_82 : decode cX0_isWaiting 82 = .ok (.iconst 0, 1) := by decide +kernel
theorem dX0_isWaiting_83 : decode cX0_isWaiting 83 = .ok (.ireturn, 1) := by decide +kernel
theorem dX0_isWaiting_84 : decode cX0_isWaiting 84 = .ok (.aload_n 0, 1) := by decide +kernel
theorem dX0_isWaiting_85 : decode cX0_isWaiting 85 = .ok (.invokevirtual 35, 3) := by decide +kernel
theorem dX0_isWaiting_88 : decode cX0_isWaiting 88 = .ok (.ifCond .eq 11, 3) := by decide +kernel
theorem dX0_isWaiting_91 : decode cX0_isWaiting 91 = .ok (.aload_n 0, 1) := by decide +kernel
theorem dX0_isWaiting_92 : decode cX0_isWaiting 92 = .ok (.iload_n 1, 1) := by decide +kernel
theorem dX0_isWaiting_93 : decode cX0_isWaiting 93 = .ok (.invokevirtual 80, 3) := by decide +kernel
theorem dX0_isWaiting_96 : decode cX0_isWaiting 96 = .ok (.ifCond .eq 7, 3) := by decide +kernel
theorem dX0_isWaiting_99 : decode cX0_isWaiting 99 = .ok (.iconst 1, 1) := by decide +kernel
theorem dX0_isWaiting_100 : decode cX0_isWaiting 100 = .ok (.goto 4, 3) := by decide +kernel
theorem dX0_isWaiting_103 : decode cX0_isWaiting 103 = .ok (.iconst 0, 1) := by decide +kernel
theorem dX0_isWaiting_104 : decode cX0_isWaiting 104 = .ok (.ireturn, 1) := by decide +kernel
theorem dX0_isWaiting_105 : decode cX0_isWaiting 105 = .ok (.iconst 0, 1) := by decide +kernel
theorem dX0_isWaiting_106 : decode cX0_isWaiting 106 = .ok (.ireturn, 1) := by decide +kernel
theorem dX0_isAnotherDiscontent_0 : decode cX0_isAnotherDiscontent 0 = .ok (.aload_n 0, 1) := by decide +kernel
theorem dX0_isAnotherDiscontent_1 : decode cX0_isAnotherDiscontent 1 = .ok (.iload_n 1, 1) := by decide +kernel
theorem dX0_isAnotherDiscontent_2 : decode cX0_isAnotherDiscontent 2 = .ok (.iconst 1, 1) := by decide +kernel
theorem dX0_isAnotherDiscontent_3 : decode cX0_isAnotherDiscontent 3 = .ok (.invokevirtual 39, 3) := by decide +kernel
theorem dX0_isAnotherDiscontent_6 : decode cX0_isAnotherDiscontent 6 = .ok (.istore_n 2, 1) := by decide +kernel
theorem dX0_isAnotherDiscontent_7 : decode cX0_isAnotherDiscontent 7 = .ok (.iconst 0, 1) := by decide +kernel
theorem dX0_isAnotherDiscontent_8 : decode cX0_isAnotherDiscontent 8 = .ok (.istore_n 3, 1) := by decide +kernel
theorem dX0_isAnotherDiscontent_9 : decode cX0_isAnotherDiscontent 9 = .ok (.iload_n 3, 1) := by decide +kernel
theorem dX0_isAnotherDiscontent_10 : decode cX0_isAnotherDiscontent 10 = .ok (.aload_n 0, 1) := by decide +kernel
theorem dX0_isAnotherDiscontent_11 : decode cX0_isAnotherDiscontent 11 = .ok (.getfield 18, 3) := by decide +kernel
theorem dX0_isAnotherDiscontent_14 : decode cX0_isAnotherDiscontent 14 = .ok (.if_icmp .ge 34, 3) := by decide +kernel
theorem dX0_isAnotherDiscontent_17 : decode cX0_isAnotherDiscontent 17 = .ok (.iload_n 3, 1) := by decide +kernel
theorem dX0_isAnotherDiscontent_18 : decode cX0_isAnotherDiscontent 18 = .ok (.iload_n 1, 1) := by decide +kernel
theorem dX0_isAnotherDiscontent_19 : decode cX0_isAnotherDiscontent 19 = .ok (.if_icmp .eq 23, 3) := by decide +kernel
theorem dX0_isAnotherDiscontent_22 : decode cX0_isAnotherDiscontent 22 = .ok (.aload_n 0, 1) := by decide +kernel
theorem dX0_isAnotherDiscontent_23 : decode cX0_isAnotherDiscontent 23 = .ok (.iload_n 3, 1) := by decide +kernel
theorem dX0_isAnotherDiscontent_24 : decode cX0_isAnotherDiscontent 24 = .ok (.iconst 1, 1) := by decide +kernel
theorem dX0_isAnotherDiscontent_25 : decode cX0_isAnotherDiscontent 25 = .ok (.invokevirtual 39, 3) := by decide +kernel
theorem dX0_isAnotherDiscontent_28 : decode cX0_isAnotherDiscontent 28 = .ok (.iload_n 2, 1) := by decide +kernel
theorem dX0_isAnotherDiscontent_29 : decode cX0_isAnotherDiscontent 29 = .ok (.if_icmp .ne 13, 3) := by decide +kernel
theorem dX0_isAnotherDiscontent_32 : decode cX0_isAnotherDiscontent 32 = .ok (.aload_n 0, 1) := by decide +kernel
theorem dX0_isAnotherDiscontent_33 : decode cX0_isAnotherDiscontent 33 = .ok (.iload_n 3, 1) := by decide +kernel
theorem dX0_isAnotherDiscontent_34 : decode cX0_isAnotherDiscontent 34 = .ok (.invokevirtual 43, 3) := by decide +kernel
theorem dX0_isAnotherDiscontent_37 : decode cX0_isAnotherDiscontent 37 = .ok (.ifCond .ne 5, 3) := by decide +kernel
theorem dX0_isAnotherDiscontent_40 : decode cX0_isAnotherDiscontent 40 = .ok (.iconst 1, 1) := by decide +kernel
theorem dX0_isAnotherDiscontent_41 : decode cX0_isAnotherDiscontent 41 = .ok (.ireturn, 1) := by decide +kernel
theorem dX0_isAnotherDiscontent_42 : decode cX0_isAnotherDiscontent 42 = .ok (.iinc 3 1, 3) := by decide +kernel
theorem dX0_isAnotherDiscontent_45 : decode cX0_isAnotherDiscontent 45 = .ok (.goto (-36), 3) := by decide +kernel
theorem dX0_isAnotherDiscontent_48 : decode cX0_isAnotherDiscontent 48 = .ok (.iconst 0, 1) := by decide +kernel
theorem dX0_isAnotherDiscontent_49 : decode cX0_isAnotherDiscontent 49 = .ok (.ireturn, 1) := by decide +kernel
theorem dX0_pass_0 : decode cX0_pass 0 = .ok (.iconst 0, 1) := by decide +kernel
theorem dX0_pass_1 : decode cX0_pass 1 = .ok (.istore_n 2, 1) := by decide +kernel
theorem dX0_pass_2 : decode cX0_pass 2 = .ok (.iload_n 2, 1) := by decide +kernel
theorem dX0_pass_3 : decode cX0_pass 3 = .ok (.iload_n 1, 1) := by decide +kernel
theorem dX0_pass_4 : decode cX0_pass 4 = .ok (.if_icmp .ge 66, 3) := by decide +kernel
theorem dX0_pass_7 : decode cX0_pass 7 = .ok (.iconst 0, 1) := by decide +kernel
theorem dX0_pass_8 : decode cX0_pass 8 = .ok (.istore_n 3, 1) := by decide +kernel
theorem dX0_pass_9 : decode cX0_pass 9 = .ok (.iload_n 3, 1) := by decide +kernel
theorem dX0_pass_10 : decode cX0_pass 10 = .ok (.aload_n 0, 1) := by decide +kernel
theorem dX0_pass_11 : decode cX0_pass 11 = .ok (.getfield 18, 3) := by decide +kernel
theorem dX0_pass_14 : decode cX0_pass 14 = .ok (.if_icmp .ge 40, 3) := by decide +kernel
theorem dX0_pass_17 : decode cX0_pass 17 = .ok (.aload_n 0, 1) := by decide +kernel
theorem dX0_pass_18 : decode cX0_pass 18 = .ok (.iload_n 3, 1) := by decide +kernel
theorem dX0_pass_19 : decode cX0_pass 19 = .ok (.bipush 7, 2) := by decide +kernel
theorem dX0_pass_21 : decode cX0_pass 21 = .ok (.invokevirtual 39, 3) := by decide +kernel
theorem dX0_pass_24 : decode cX0_pass 24 = .ok (.ifCond .ne 24, 3) := by decide +kernel
theorem dX0_pass_27 : decode cX0_pass 27 = .ok (.aload_n 0, 1) := by decide +kernel
theorem dX0_pass_28 : decode cX0_pass 28 = .ok (.iload_n 3, 1) := by decide +kernel
theorem dX0_pass_29 : decode cX0_pass 29 = .ok (.invokevirtual 43, 3) := by decide +kernel
theorem dX0_pass_32 : decode cX0_pass 32 = .ok (.ifCond .ne 16, 3) := by decide +kernel
theorem dX0_pass_35 : decode cX0_pass 35 = .ok (.aload_n 0, 1) := by decide +kernel
theorem dX0_pass_36 : decode cX0_pass 36 = .ok (.iload_n 3, 1) := by decide +kernel
theorem dX0_pass_37 : decode cX0_pass 37 = .ok (.invokevirtual 47, 3) := by decide +kernel
theorem dX0_pass_40 : decode cX0_pass 40 = .ok (.ifCond .ne 8, 3) := by decide +kernel
theorem dX0_pass_43 : decode cX0_pass 43 = .ok (.aload_n 0, 1) := by decide +kernel
theorem dX0_pass_44 : decode cX0_pass 44 = .ok (.iload_n 3, 1) := by decide +kernel
theorem dX0_pass_45 : decode cX0_pass 45 = .ok (.invokevirtual 83, 3) := by decide +kernel
theorem dX0_pass_48 : decode cX0_pass 48 = .ok (.iinc 3 1, 3) := by decide +kernel
theorem dX0_pass_51 : decode cX0_pass 51 = .ok (.goto (-42), 3) := by decide +kernel
theorem dX0_pass_54 : decode cX0_pass 54 = .ok (.aload_n 0, 1) := by decide +kernel
theorem dX0_pass_55 : decode cX0_pass 55 = .ok (.dup, 1) := by decide +kernel
theorem dX0_pass_56 : decode cX0_pass 56 = .ok (.getfield 9, 3) := by decide +kernel
theorem dX0_pass_59 : decode cX0_pass 59 = .ok (.iconst 1, 1) := by decide +kernel
theorem dX0_pass_60 : decode cX0_pass 60 = .ok (.iadd, 1) := by decide +kernel
theorem dX0_pass_61 : decode cX0_pass 61 = .ok (.putfield 9, 3) := by decide +kernel
theorem dX0_pass_64 : decode cX0_pass 64 = .ok (.iinc 2 1, 3) := by decide +kernel
theorem dX0_pass_67 : decode cX0_pass 67 = .ok (.goto (-65), 3) := by decide +kernel
theorem dX0_pass_70 : decode cX0_pass 70 = .ok (.return_, 1) := by decide +kernel
theorem dX0_haveAGo_0 : decode cX0_haveAGo 0 = .ok (.aload_n 0, 1) := by decide +kernel
theorem dX0_haveAGo_1 : decode cX0_haveAGo 1 = .ok (.iload_n 1, 1) := by decide +kernel
theorem dX0_haveAGo_2 : decode cX0_haveAGo 2 = .ok (.invokevirtual 87, 3) := by decide +kernel
theorem dX0_haveAGo_5 : decode cX0_haveAGo 5 = .ok (.istore_n 2, 1) := by decide +kernel
theorem dX0_haveAGo_6 : decode cX0_haveAGo 6 = .ok (.iload_n 2, 1) := by decide +kernel
theorem dX0_haveAGo_7 : decode cX0_haveAGo 7 = .ok (.ifCond .le 34, 3) := by decide +kernel
theorem dX0_haveAGo_10 : decode cX0_haveAGo 10 = .ok (.aload_n 0, 1) := by decide +kernel
theorem dX0_haveAGo_11 : decode cX0_haveAGo 11 = .ok (.iload_n 1, 1) := by decide +kernel
theorem dX0_haveAGo_12 : decode cX0_haveAGo 12 = .ok (.iload_n 2, 1) := by decide +kernel
theorem dX0_haveAGo_13 : decode cX0_haveAGo 13 = .ok (.invokevirtual 90, 3) := by decide +kernel
theorem dX0_haveAGo_16 : decode cX0_haveAGo 16 = .ok (.ifCond .eq 25, 3) := by decide +kernel
theorem dX0_haveAGo_19 : decode cX0_haveAGo 19 = .ok (.aload_n 0, 1) := by decide +kernel
theorem dX0_haveAGo_20 : decode cX0_haveAGo 20 = .ok (.iload_n 1, 1) := by decide +kernel
theorem dX0_haveAGo_21 : decode cX0_haveAGo 21 = .ok (.bipush 8, 2) := by decide +kernel
theorem dX0_haveAGo_23 : decode cX0_haveAGo 23 = .ok (.aload_n 0, 1) := by decide +kernel
theorem dX0_haveAGo_24 : decode cX0_haveAGo 24 = .ok (.iload_n 1, 1) := by decide +kernel
theorem dX0_haveAGo_25 : decode cX0_haveAGo 25 = .ok (.bipush 8, 2) := by decide +kernel
theorem dX0_haveAGo_27 : decode cX0_haveAGo 27 = .ok (.invokevirtual 39, 3) := by decide +kernel
theorem dX0_haveAGo_30 : decode cX0_haveAGo 30 = .ok (.iconst 1, 1) := by decide +kernel
theorem dX0_haveAGo_31 : decode cX0_haveAGo 31 = .ok (.iadd, 1) := by decide +kernel
theorem dX0_haveAGo_32 : decode cX0_haveAGo 32 = .ok (.sipush 9999, 3) := by decide +kernel
theorem dX0_haveAGo_35 : decode cX0_haveAGo 35 = .ok (.invokestatic 94, 3) := by decide +kernel
theorem dX0_haveAGo_38 : decode cX0_haveAGo 38 = .ok (.invokevirtual 31, 3) := by decide +kernel
theorem dX0_haveAGo_41 : decode cX0_haveAGo 41 = .ok (.return_, 1) := by decide +kernel
theorem dX0_isChangedBy_0 : decode cX0_isChangedBy 0 = .ok (.aload_n 0, 1) := by decide +kernel
theorem dX0_isChangedBy_1 : decode cX0_isChangedBy 1 = .ok (.iload_n 1, 1) := by decide +kernel
theorem dX0_isChangedBy_2 : decode cX0_isChangedBy 2 = .ok (.iconst 5, 1) := by decide +kernel
theorem dX0_isChangedBy_3 : decode cX0_isChangedBy 3 = .ok (.invokevirtual 39, 3) := by decide +kernel
theorem dX0_isChangedBy_6 : decode cX0_isChangedBy 6 = .ok (.tableswitch 83 0 3 #[30, 49, 62, 75], 30) := by decide +kernel
theorem dX0_isChangedBy_36 : decode cX0_isChangedBy 36 = .ok (.aload_n 0, 1) := by decide +kernel
theorem dX0_isChangedBy_37 : decode cX0_isChangedBy 37 = .ok (.iload_n 1, 1) := by decide +kernel
theorem dX0_isChangedBy_38 : decode cX0_isChangedBy 38 = .ok (.iconst 3, 1) := by decide +kernel
theorem dX0_isChangedBy_39 : decode cX0_isChangedBy 39 = .ok (.iconst 0, 1) := by decide +kernel
theorem dX0_isChangedBy_40 : decode cX0_isChangedBy 40 = .ok (.aload_n 0, 1) := by decide +kernel
theorem dX0_isChangedBy_41 : decode cX0_isChangedBy 41 = .ok (.iload_n 1, 1) := by decide +kernel
theorem dX0_isChangedBy_42 : decode cX0_isChangedBy 42 = .ok (.iconst 3, 1) := by decide +kernel
theorem dX0_isChangedBy_43 : decode cX0_isChangedBy 43 = .ok (.invokevirtual 39, 3) := by decide +kernel
theorem dX0_isChangedBy_46 : decode cX0_isChangedBy 46 = .ok (.iload_n 2, 1) := by decide +kernel
theorem dX0_isChangedBy_47 : decode cX0_isChangedBy 47 = .ok (.isub, 1) := by decide +kernel
theorem dX0_isChangedBy_48 : decode cX0_isChangedBy 48 = .ok (.invokestatic 97, 3) := by decide +kernel
theorem dX0_isChangedBy_51 : decode cX0_isChangedBy 51 = .ok (.invokevirtual 100, 3) := by decide +kernel
theorem dX0_isChangedBy_54 : decode cX0_isChangedBy 54 = .ok (.ireturn, 1) := by decide +kernel
theorem dX0_isChangedBy_55 : decode cX0_isChangedBy 55 = .ok (.aload_n 0, 1) := by decide +kernel
theorem dX0_isChangedBy_56 : decode cX0_isChangedBy 56 = .ok (.iload_n 1, 1) := by decide +kernel
theorem dX0_isChangedBy_57 : decode cX0_isChangedBy 57 = .ok (.iconst 2, 1) := by decide +kernel
theorem dX0_isChangedBy_58 : decode cX0_isChangedBy 58 = .ok (.aload_n 0, 1) := by decide +kernel
theorem dX0_isChangedBy_59 : decode cX0_isChangedBy 59 = .ok (.iload_n 1, 1) := by decide +kernel
theorem dX0_isChangedBy_60 : decode cX0_isChangedBy 60 = .ok (.iload_n 2, 1) := by decide +kernel
theorem dX0_isChangedBy_61 : decode cX0_isChangedBy 61 = .ok (.invokevirtual 104, 3) := by decide +kernel
theorem dX0_isChangedBy_64 : decode cX0_isChangedBy 64 = .ok (.invokevirtual 100, 3) := by decide +kernel
theorem dX0_isChangedBy_67 : decode cX0_isChangedBy 67 = .ok (.ireturn, 1) := by decide +kernel
theorem dX0_isChangedBy_68 : decode cX0_isChangedBy 68 = .ok (.aload_n 0, 1) := by decide +kernel
theorem dX0_isChangedBy_69 : decode cX0_isChangedBy 69 = .ok (.iload_n 1, 1) := by decide +kernel
theorem dX0_isChangedBy_70 : decode cX0_isChangedBy 70 = .ok (.iconst 2, 1) := by decide +kernel
theorem dX0_isChangedBy_71 : decode cX0_isChangedBy 71 = .ok (.aload_n 0, 1) := by decide +kernel
theorem dX0_isChangedBy_72 : decode cX0_isChangedBy 72 = .ok (.iload_n 1, 1) := by decide +kernel
theorem dX0_isChangedBy_73 : decode cX0_isChangedBy 73 = .ok (.iload_n 2, 1) := by decide +kernel
theorem dX0_isChangedBy_74 : decode cX0_isChangedBy 74 = .ok (.invokevirtual 107, 3) := by decide +kernel
theorem dX0_isChangedBy_77 : decode cX0_isChangedBy 77 = .ok (.invokevirtual 100, 3) := by decide +kernel
theorem dX0_isChangedBy_80 : decode cX0_isChangedBy 80 = .ok (.ireturn, 1) := by decide +kernel
theorem dX0_isChangedBy_81 : decode cX0_isChangedBy 81 = .ok (.aload_n 0, 1) := by decide +kernel
theorem dX0_isChangedBy_82 : decode cX0_isChangedBy 82 = .ok (.iload_n 1, 1) := by decide +kernel
theorem dX0_isChangedBy_83 : decode cX0_isChangedBy 83 = .ok (.iconst 4, 1) := by decide +kernel
theorem dX0_isChangedBy_84 : decode cX0_isChangedBy 84 = .ok (.iconst 0, 1) := by decide +kernel
theorem dX0_isChangedBy_85 : decode cX0_isChangedBy 85 = .ok (.invokevirtual 100, 3) := by decide +kernel
theorem dX0_isChangedBy_88 : decode cX0_isChangedBy 88 = .ok (.ireturn, 1) := by decide +kernel
theorem dX0_isChangedBy_89 : decode cX0_isChangedBy 89 = .ok (.aload_n 0, 1) := by decide +kernel
theorem dX0_isChangedBy_90 : decode cX0_isChangedBy 90 = .ok (.iload_n 1, 1) := by decide +kernel
theorem dX0_isChangedBy_91 : decode cX0_isChangedBy 91 = .ok (.iconst 4, 1) := by decide +kernel
theorem dX0_isChangedBy_92 : decode cX0_isChangedBy 92 = .ok (.iconst 1, 1) := by decide +kernel
theorem dX0_isChangedBy_93 : decode cX0_isChangedBy 93 = .ok (.invokevirtual 100, 3) := by decide +kernel
theorem dX0_isChangedBy_96 : decode cX0_isChangedBy 96 = .ok (.ireturn, 1) := by decide +kernel
theorem dX0_replace_0 : decode cX0_replace 0 = .ok (.aload_n 0, 1) := by decide +kernel
theorem dX0_replace_1 : decode cX0_replace 1 = .ok (.iload_n 1, 1) := by decide +kernel
theorem dX0_replace_2 : decode cX0_replace 2 = .ok (.iload_n 2, 1) := by decide +kernel
theorem dX0_replace_3 : decode cX0_replace 3 = .ok (.invokevirtual 39, 3) := by decide +kernel
theorem dX0_replace_6 : decode cX0_replace 6 = .ok (.iload_n 3, 1) := by decide +kernel
theorem dX0_replace_7 : decode cX0_replace 7 = .ok (.if_icmp .eq 7, 3) := by decide +kernel
theorem dX0_replace_10 : decode cX0_replace 10 = .ok (.iconst 1, 1) := by decide +kernel
theorem dX0_replace_11 : decode cX0_replace 11 = .ok (.goto 4, 3) := by decide +kernel
theorem dX0_replace_14 : decode cX0_replace 14 = .ok (.iconst 0, 1) := by decide +kernel
theorem dX0_replace_15 : decode cX0_replace 15 = .ok (.istore 4, 2) := by decide +kernel
theorem dX0_replace_17 : decode cX0_replace 17 = .ok (.aload_n 0, 1) := by decide +kernel
theorem dX0_replace_18 : decode cX0_replace 18 = .ok (.iload_n 1, 1) := by decide +kernel
theorem dX0_replace_19 : decode cX0_replace 19 = .ok (.iload_n 2, 1) := by decide +kernel
theorem dX0_replace_20 : decode cX0_replace 20 = .ok (.iload_n 3, 1) := by decide +kernel
theorem dX0_replace_21 : decode cX0_replace 21 = .ok (.invokevirtual 31, 3) := by decide +kernel
theorem dX0_replace_24 : decode cX0_replace 24 = .ok (.iload 4, 2) := by decide +kernel
theorem dX0_replace_26 : decode cX0_replace 26 = .ok (.ireturn, 1) := by decide +kernel
theorem dX0_nearer_0 : decode cX0_nearer 0 = .ok (.aload_n 0, 1) := by decide +kernel
theorem dX0_nearer_1 : decode cX0_nearer 1 = .ok (.iload_n 1, 1) := by decide +kernel
theorem dX0_nearer_2 : decode cX0_nearer 2 = .ok (.iconst 2, 1) := by decide +kernel
theorem dX0_nearer_3 : decode cX0_nearer 3 = .ok (.invokevirtual 39, 3) := by decide +kernel
theorem dX0_nearer_6 : decode cX0_nearer 6 = .ok (.istore_n 3, 1) := by decide +kernel
theorem dX0_nearer_7 : decode cX0_nearer 7 = .ok (.aload_n 0, 1) := by decide +kernel
theorem dX0_nearer_8 : decode cX0_nearer 8 = .ok (.aload_n 0, 1) := by decide +kernel
theorem dX0_nearer_9 : decode cX0_nearer 9 = .ok (.iload_n 1, 1) := by decide +kernel
theorem dX0_nearer_10 : decode cX0_nearer 10 = .ok (.bipush 6, 2) := by decide +kernel
theorem dX0_nearer_12 : decode cX0_nearer 12 = .ok (.invokevirtual 39, 3) := by decide +kernel
theorem dX0_nearer_15 : decode cX0_nearer 15 = .ok (.iconst 2, 1) := by decide +kernel
theorem dX0_nearer_16 : decode cX0_nearer 16 = .ok (.invokevirtual 39, 3) := by decide +kernel
theorem dX0_nearer_19 : decode cX0_nearer 19 = .ok (.istore 4, 2) := by decide +kernel
theorem dX0_nearer_21 : decode cX0_nearer 21 = .ok (.iload_n 3, 1) := by decide +kernel
theorem dX0_nearer_22 : decode cX0_nearer 22 = .ok (.iload 4, 2) := by decide +kernel
theorem dX0_nearer_24 : decode cX0_nearer 24 = .ok (.if_icmp .ge 16, 3) := by decide +kernel
theorem dX0_nearer_27 : decode cX0_nearer 27 = .ok (.iload_n 3, 1) := by decide +kernel
theorem dX0_nearer_28 : decode cX0_nearer 28 = .ok (.iload_n 2, 1) := by decide +kernel
theorem dX0_nearer_29 : decode cX0_nearer 29 = .ok (.iadd, 1) := by decide +kernel
theorem dX0_nearer_30 : decode cX0_nearer 30 = .ok (.iload 4, 2) := by decide +kernel
theorem dX0_nearer_32 : decode cX0_nearer 32 = .ok (.iconst 1, 1) := by decide +kernel
theorem dX0_nearer_33 : decode cX0_nearer 33 = .ok (.isub, 1) := by decide +kernel
theorem dX0_nearer_34 : decode cX0_nearer 34 = .ok (.invokestatic 94, 3) := by decide +kernel
theorem dX0_nearer_37 : decode cX0_nearer 37 = .ok (.goto 13, 3) := by decide +kernel
theorem dX0_nearer_40 : decode cX0_nearer 40 = .ok (.iload_n 3, 1) := by decide +kernel
theorem dX0_nearer_41 : decode cX0_nearer 41 = .ok (.iload_n 2, 1) := by decide +kernel
theorem dX0_nearer_42 : decode cX0_nearer 42 = .ok (.isub, 1) := by decide +kernel
theorem dX0_nearer_43 : decode cX0_nearer 43 = .ok (.iload 4, 2) := by decide +kernel
theorem dX0_nearer_45 : decode cX0_nearer 45 = .ok (.iconst 1, 1) := by decide +kernel
theorem dX0_nearer_46 : decode cX0_nearer 46 = .ok (.iadd, 1) := by decide +kernel
theorem dX0_nearer_47 : decode cX0_nearer 47 = .ok (.invokestatic 97, 3) := by decide +kernel
theorem dX0_nearer_50 : decode cX0_nearer 50 = .ok (.ireturn, 1) := by decide +kernel
theorem dX0_farther_0 : decode cX0_farther 0 = .ok (.aload_n 0, 1) := by decide +kernel
theorem dX0_farther_1 : decode cX0_farther 1 = .ok (.iload_n 1, 1) := by decide +kernel
theorem dX0_farther_2 : decode cX0_farther 2 = .ok (.iconst 2, 1) := by decide +kernel
theorem dX0_farther_3 : decode cX0_farther 3 = .ok (.invokevirtual 39, 3) := by decide +kernel
theorem dX0_farther_6 : decode cX0_farther 6 = .ok (.istore_n 3, 1) := by decide +kernel
theorem dX0_farther_7 : decode cX0_farther 7 = .ok (.iload_n 3, 1) := by decide +kernel
theorem dX0_farther_8 : decode cX0_farther 8 = .ok (.aload_n 0, 1) := by decide +kernel
theorem dX0_farther_9 : decode cX0_farther 9 = .ok (.aload_n 0, 1) := by decide +kernel
theorem dX0_farther_10 : decode cX0_farther 10 = .ok (.iload_n 1, 1) := by decide +kernel
theorem dX0_farther_11 : decode cX0_farther 11 = .ok (.bipush 6, 2) := by decide +kernel
theorem dX0_farther_13 : decode cX0_farther 13 = .ok (.invokevirtual 39, 3) := by decide +kernel
theorem dX0_farther_16 : decode cX0_farther 16 = .ok (.iconst 2, 1) := by decide +kernel
theorem dX0_farther_17 : decode cX0_farther 17 = .ok (.invokevirtual 39, 3) := by decide +kernel
theorem dX0_farther_20 : decode cX0_farther 20 = .ok (.if_icmp .gt 13, 3) := by decide +kernel
theorem dX0_farther_23 : decode cX0_farther 23 = .ok (.iload_n 3, 1) := by decide +kernel
theorem dX0_farther_24 : decode cX0_farther 24 = .ok (.iload_n 2, 1) := by decide +kernel
theorem dX0_farther_25 : decode cX0_farther 25 = .ok (.isub, 1) := by decide +kernel
theorem dX0_farther_26 : decode cX0_farther 26 = .ok (.iconst 0, 1) := by decide +kernel
theorem dX0_farther_27 : decode cX0_farther 27 = .ok (.invokestatic 97, 3) := by decide +kernel
theorem dX0_farther_30 : decode cX0_farther 30 = .ok (.goto 11, 3) := by decide +kernel
theorem dX0_farther_33 : decode cX0_farther 33 = .ok (.iload_n 3, 1) := by decide +kernel
theorem dX0_farther_34 : decode cX0_farther 34 = .ok (.iload_n 2, 1) := by decide +kernel
theorem dX0_farther_35 : decode cX0_farther 35 = .ok (.iadd, 1) := by decide +kernel
theorem dX0_farther_36 : decode cX0_farther 36 = .ok (.bipush 19, 2) := by decide +kernel
theorem dX0_farther_38 : decode cX0_farther 38 = .ok (.invokestatic 94, 3) := by decide +kernel
theorem dX0_farther_41 : decode cX0_farther 41 = .ok (.ireturn, 1) := by decide +kernel
theorem dX1_init_0 : decode cX1_init 0 = .ok (.aload_n 0, 1) := by decide +kernel
theorem dX1_init_1 : decode cX1_init 1 = .ok (.invokespecial 3, 3) := by decide +kernel
theorem dX1_init_4 : decode cX1_init 4 = .ok (.aload_n 0, 1) := by decide +kernel
theorem dX1_init_5 : decode cX1_init 5 = .ok (.iconst 0, 1) := by decide +kernel
theorem dX1_init_6 : decode cX1_init 6 = .ok (.putfield 9, 3) := by decide +kernel
theorem dX1_init_9 : decode cX1_init 9 = .ok (.aload_n 0, 1) := by decide +kernel
theorem dX1_init_10 : decode cX1_init 10 = .ok (.iconst 0, 1) := by decide +kernel
theorem dX1_init_11 : decode cX1_init 11 = .ok (.putfield 15, 3) := by decide +kernel
theorem dX1_init_14 : decode cX1_init 14 = .ok (.aload_n 0, 1) := by decide +kernel
theorem dX1_init_15 : decode cX1_init 15 = .ok (.bipush 40, 2) := by decide +kernel
theorem dX1_init_17 : decode cX1_init 17 = .ok (.newarray .long, 2) := by decide +kernel
theorem dX1_init_19 : decode cX1_init 19 = .ok (.putfield 18, 3) := by decide +kernel
theorem dX1_init_22 : decode cX1_init 22 = .ok (.return_, 1) := by decide +kernel
theorem dX1_isMissing_0 : decode cX1_isMissing 0 = .ok (.aload_n 0, 1) := by decide +kernel
theorem dX1_isMissing_1 : decode cX1_isMissing 1 = .ok (.getfield 9, 3) := by decide +kernel
theorem dX1_isMissing_4 : decode cX1_isMissing 4 = .ok (.ifCond .ne 7, 3) := by decide +kernel
theorem dX1_isMissing_7 : decode cX1_isMissing 7 = .ok (.iconst 1, 1) := by decide +kernel
theorem dX1_isMissing_8 : decode cX1_isMissing 8 = .ok (.goto 4, 3) := by decide +kernel
theorem dX1_isMissing_11 : decode cX1_isMissing 11 = .ok (.iconst 0, 1) := by decide +kernel
theorem dX1_isMissing_12 : decode cX1_isMissing 12 = .ok (.ireturn, 1) := by decide +kernel
theorem dX1_lay_0 : decode cX1_lay 0 = .ok (.aload_n 0, 1) := by decide +kernel
theorem dX1_lay_1 : decode cX1_lay 1 = .ok (.iload_n 1, 1) := by decide +kernel
theorem dX1_lay_2 : decode cX1_lay 2 = .ok (.putfield 9, 3) := by decide +kernel
theorem dX1_lay_5 : decode cX1_lay 5 = .ok (.aload_n 0, 1) := by decide +kernel
theorem dX1_lay_6 : decode cX1_lay 6 = .ok (.iload_n 1, 1) := by decide +kernel
theorem dX1_lay_7 : decode cX1_lay 7 = .ok (.ifCond .ne 7, 3) := by decide +kernel
theorem dX1_lay_10 : decode cX1_lay 10 = .ok (.iconst 0, 1) := by decide +kernel
theorem dX1_lay_11 : decode cX1_lay 11 = .ok (.goto 4, 3) := by decide +kernel
theorem dX1_lay_14 : decode cX1_lay 14 = .ok (.iload_n 2, 1) := by decide +kernel
theorem dX1_lay_15 : decode cX1_lay 15 = .ok (.putfield 15, 3) := by decide +kernel
theorem dX1_lay_18 : decode cX1_lay 18 = .ok (.iconst 0, 1) := by decide +kernel
theorem dX1_lay_19 : decode cX1_lay 19 = .ok (.istore_n 3, 1) := by decide +kernel
theorem dX1_lay_20 : decode cX1_lay 20 = .ok (.iload_n 3, 1) := by decide +kernel
theorem dX1_lay_21 : decode cX1_lay 21 = .ok (.bipush 40, 2) := by decide +kernel
theorem dX1_lay_23 : decode cX1_lay 23 = .ok (.if_icmp .ge 16, 3) := by decide +kernel
theorem dX1_lay_26 : decode cX1_lay 26 = .ok (.aload_n 0, 1) := by decide +kernel
theorem dX1_lay_27 : decode cX1_lay 27 = .ok (.getfield 18, 3) := by decide +kernel
theorem dX1_lay_30 : decode cX1_lay 30 = .ok (.iload_n 3, 1) := by decide +kernel
theorem dX1_lay_31 : decode cX1_lay 31 = .ok (.lconst 0, 1) := by decide +kernel
theorem dX1_lay_32 : decode cX1_lay 32 = .ok (.lastore, 1) := by decide +kernel
theorem dX1_lay_33 : decode cX1_lay 33 = .ok (.iinc 3 1, 3) := by decide +kernel
theorem dX1_lay_36 : decode cX1_lay 36 = .ok (.goto (-16), 3) := by decide +kernel
theorem dX1_lay_39 : decode cX1_lay 39 = .ok (.return_, 1) := by decide +kernel
theorem dX1_lacks_0 : decode cX1_lacks 0 = .ok (.iload_n 1, 1) := by decide +kernel
theorem dX1_lacks_1 : decode cX1_lacks 1 = .ok (.ifCond .lt 25, 3) := by decide +kernel
theorem dX1_lacks_4 : decode cX1_lacks 4 = .ok (.iload_n 2, 1) := by decide +kernel
theorem dX1_lacks_5 : decode cX1_lacks 5 = .ok (.ifCond .lt 21, 3) := by decide +kernel
theorem dX1_lacks_8 : decode cX1_lacks 8 = .ok (.iload_n 1, 1) := by decide +kernel
theorem dX1_lacks_9 : decode cX1_lacks 9 = .ok (.aload_n 0, 1) := by decide +kernel
theorem dX1_lacks_10 : decode cX1_lacks 10 = .ok (.getfield 15, 3) := by decide +kernel
theorem dX1_lacks_13 : decode cX1_lacks 13 = .ok (.if_icmp .gt 13, 3) := by decide +kernel
theorem dX1_lacks_16 : decode cX1_lacks 16 = .ok (.iload_n 2, 1) := by decide +kernel
theorem dX1_lacks_17 : decode cX1_lacks 17 = .ok (.aload_n 0, 1) := by decide +kernel
theorem dX1_lacks_18 : decode cX1_lacks 18 = .ok (.getfield 15, 3) := by decide +kernel
theorem dX1_lacks_21 : decode cX1_lacks 21 = .ok (.iload_n 1, 1) := by decide +kernel
theorem dX1_lacks_22 : decode cX1_lacks 22 = .ok (.isub, 1) := by decide +kernel
theorem dX1_lacks_23 : decode cX1_lacks 23 = .ok (.if_icmp .le 7, 3) := by decide +kernel
theorem dX1_lacks_26 : decode cX1_lacks 26 = .ok (.iconst 1, 1) := by decide +kernel
theorem dX1_lacks_27 : decode cX1_lacks 27 = .ok (.goto 4, 3) := by decide +kernel
theorem dX1_lacks_30 : decode cX1_lacks 30 = .ok (.iconst 0, 1) := by decide +kernel
theorem dX1_lacks_31 : decode cX1_lacks 31 = .ok (.ireturn, 1) := by decide +kernel
theorem dX1_get_0 : decode cX1_get 0 = .ok (.iload_n 1, 1) := by decide +kernel
theorem dX1_get_1 : decode cX1_get 1 = .ok (.ifCond .lt 26, 3) := by decide +kernel
theorem dX1_get_4 : decode cX1_get 4 = .ok (.iload_n 1, 1) := by decide +kernel
theorem dX1_get_5 : decode cX1_get 5 = .ok (.aload_n 0, 1) := by decide +kernel
theorem dX1_get_6 : decode cX1_get 6 = .ok (.getfield 15, 3) := by decide +kernel
theorem dX1_get_9 : decode cX1_get 9 = .ok (.if_icmp .ge 18, 3) := by decide +kernel
theorem dX1_get_12 : decode cX1_get 12 = .ok (.iload_n 1, 1) := by decide +kernel
theorem dX1_get_13 : decode cX1_get 13 = .ok (.bipush 40, 2) := by decide +kernel
theorem dX1_get_15 : decode cX1_get 15 = .ok (.if_icmp .ge 12, 3) := by decide +kernel
theorem dX1_get_18 : decode cX1_get 18 = .ok (.aload_n 0, 1) := by decide +kernel
theorem dX1_get_19 : decode cX1_get 19 = .ok (.getfield 18, 3) := by decide +kernel
theorem dX1_get_22 : decode cX1_get 22 = .ok (.iload_n 1, 1) := by decide +kernel
theorem dX1_get_23 : decode cX1_get 23 = .ok (.laload, 1) := by decide +kernel
theorem dX1_get_24 : decode cX1_get 24 = .ok (.goto 4, 3) := by decide +kernel
theorem dX1_get_27 : decode cX1_get 27 = .ok (.lconst 0, 1) := by decide +kernel
theorem dX1_get_28 : decode cX1_get 28 = .ok (.lreturn, 1) := by decide +kernel
theorem dX1_put_0 : decode cX1_put 0 = .ok (.iload_n 1, 1) := by decide +kernel
theorem dX1_put_1 : decode cX1_put 1 = .ok (.ifCond .lt 28, 3) := by decide +kernel
theorem dX1_put_4 : decode cX1_put 4 = .ok (.iload_n 1, 1) := by decide +kernel
theorem dX1_put_5 : decode cX1_put 5 = .ok (.aload_n 0, 1) := by decide +kernel
theorem dX1_put_6 : decode cX1_put 6 = .ok (.getfield 15, 3) := by decide +kernel
theorem dX1_put_9 : decode cX1_put 9 = .ok (.if_icmp .ge 20, 3) := by decide +kernel
theorem dX1_put_12 : decode cX1_put 12 = .ok (.iload_n 1, 1) := by decide +kernel
theorem dX1_put_13 : decode cX1_put 13 = .ok (.bipush 40, 2) := by decide +kernel
theorem dX1_put_15 : decode cX1_put 15 = .ok (.if_icmp .ge 14, 3) := by decide +kernel
theorem dX1_put_18 : decode cX1_put 18 = .ok (.aload_n 0, 1) := by decide +kernel
theorem dX1_put_19 : decode cX1_put 19 = .ok (.getfield 18, 3) := by decide +kernel
theorem dX1_put_22 : decode cX1_put 22 = .ok (.iload_n 1, 1) := by decide +kernel
theorem dX1_put_23 : decode cX1_put 23 = .ok (.aload_n 0, 1) := by decide +kernel
theorem dX1_put_24 : decode cX1_put 24 = .ok (.lload_n 2, 1) := by decide +kernel
theorem dX1_put_25 : decode cX1_put 25 = .ok (.invokevirtual 22, 3) := by decide +kernel
theorem dX1_put_28 : decode cX1_put 28 = .ok (.lastore, 1) := by decide +kernel
theorem dX1_put_29 : decode cX1_put 29 = .ok (.return_, 1) := by decide +kernel
theorem dX1_lowest_0 : decode cX1_lowest 0 = .ok (.aload_n 0, 1) := by decide +kernel
theorem dX1_lowest_1 : decode cX1_lowest 1 = .ok (.getfield 9, 3) := by decide +kernel
theorem dX1_lowest_4 : decode cX1_lowest 4 = .ok (.lookupswitch 38 #[(8, 28), (16, 33)], 28) := by decide +kernel
theorem dX1_lowest_32 : decode cX1_lowest 32 = .ok (.lload_n 1, 1) := by decide +kernel
theorem dX1_lowest_33 : decode cX1_lowest 33 = .ok (.l2i, 1) := by decide +kernel
theorem dX1_lowest_34 : decode cX1_lowest 34 = .ok (.i2b, 1) := by decide +kernel
theorem dX1_lowest_35 : decode cX1_lowest 35 = .ok (.i2l, 1) := by decide +kernel
theorem dX1_lowest_36 : decode cX1_lowest 36 = .ok (.lreturn, 1) := by decide +kernel
theorem dX1_lowest_37 : decode cX1_lowest 37 = .ok (.lload_n 1, 1) := by decide +kernel
theorem dX1_lowest_38 : decode cX1_lowest 38 = .ok (.l2i, 1) := by decide +kernel
theorem dX1_lowest_39 : decode cX1_lowest 39 = .ok (.i2s, 1) := by decide +kernel
theorem dX1_lowest_40 : decode cX1_lowest 40 = .ok (.i2l, 1) := by decide +kernel
theorem dX1_lowest_41 : decode cX1_lowest 41 = .ok (.lreturn, 1) := by decide +kernel
theorem dX1_lowest_42 : decode cX1_lowest 42 = .ok (.lload_n 1, 1) := by decide +kernel
theorem dX1_lowest_43 : decode cX1_lowest 43 = .ok (.lreturn, 1) := by decide +kernel
theorem dX2_init_0 : decode cX2_init 0 = .ok (.aload_n 0, 1) := by decide +kernel
theorem dX2_init_1 : decode cX2_init 1 = .ok (.invokespecial 3, 3) := by decide +kernel
theorem dX2_init_4 : decode cX2_init 4 = .ok (.aload_n 0, 1) := by decide +kernel
theorem dX2_init_5 : decode cX2_init 5 = .ok (.iconst 0, 1) := by decide +kernel
theorem dX2_init_6 : decode cX2_init 6 = .ok (.putfield 9, 3) := by decide +kernel
theorem dX2_init_9 : decode cX2_init 9 = .ok (.aload_n 0, 1) := by decide +kernel
theorem dX2_init_10 : decode cX2_init 10 = .ok (.bipush 120, 2) := by decide +kernel
theorem dX2_init_12 : decode cX2_init 12 = .ok (.newarray .int, 2) := by decide +kernel
theorem dX2_init_14 : decode cX2_init 14 = .ok (.putfield 15, 3) := by decide +kernel
theorem dX2_init_17 : decode cX2_init 17 = .ok (.aload_n 0, 1) := by decide +kernel
theorem dX2_init_18 : decode cX2_init 18 = .ok (.iconst 0, 1) := by decide +kernel
theorem dX2_init_19 : decode cX2_init 19 = .ok (.putfield 19, 3) := by decide +kernel
theorem dX2_init_22 : decode cX2_init 22 = .ok (.aload_n 0, 1) := by decide +kernel
theorem dX2_init_23 : decode cX2_init 23 = .ok (.iconst 0, 1) := by decide +kernel
theorem dX2_init_24 : decode cX2_init 24 = .ok (.putfield 22, 3) := by decide +kernel
theorem dX2_init_27 : decode cX2_init 27 = .ok (.aload_n 0, 1) := by decide +kernel
theorem dX2_init_28 : decode cX2_init 28 = .ok (.iconst 0, 1) := by decide +kernel
theorem dX2_init_29 : decode cX2_init 29 = .ok (.putfield 25, 3) := by decide +kernel
theorem dX2_init_32 : decode cX2_init 32 = .ok (.aload_n 0, 1) := by decide +kernel
theorem dX2_init_33 : decode cX2_init 33 = .ok (.iconst 0, 1) := by decide +kernel
theorem dX2_init_34 : decode cX2_init 34 = .ok (.putfield 28, 3) := by decide +kernel
theorem dX2_init_37 : decode cX2_init 37 = .ok (.aload_n 0, 1) := by decide +kernel
theorem dX2_init_38 : decode cX2_init 38 = .ok (.iconst 0, 1) := by decide +kernel
theorem dX2_init_39 : decode cX2_init 39 = .ok (.putfield 31, 3) := by decide +kernel
theorem dX2_init_42 : decode cX2_init 42 = .ok (.return_, 1) := by decide +kernel
theorem dX2_take_0 : decode cX2_take 0 = .ok (.aload_n 0, 1) := by decide +kernel
theorem dX2_take_1 : decode cX2_take 1 = .ok (.getfield 9, 3) := by decide +kernel
theorem dX2_take_4 : decode cX2_take 4 = .ok (.ifCond .lt 32, 3) := by decide +kernel
theorem dX2_take_7 : decode cX2_take 7 = .ok (.aload_n 0, 1) := by decide +kernel
theorem dX2_take_8 : decode cX2_take 8 = .ok (.getfield 9, 3) := by decide +kernel
theorem dX2_take_11 : decode cX2_take 11 = .ok (.bipush 120, 2) := by decide +kernel
theorem dX2_take_13 : decode cX2_take 13 = .ok (.if_icmp .ge 23, 3) := by decide +kernel
theorem dX2_take_16 : decode cX2_take 16 = .ok (.aload_n 0, 1) := by decide +kernel
theorem dX2_take_17 : decode cX2_take 17 = .ok (.getfield 15, 3) := by decide +kernel
theorem dX2_take_20 : decode cX2_take 20 = .ok (.aload_n 0, 1) := by decide +kernel
theorem dX2_take_21 : decode cX2_take 21 = .ok (.getfield 9, 3) := by decide +kernel
theorem dX2_take_24 : decode cX2_take 24 = .ok (.iload_n 1, 1) := by decide +kernel
theorem dX2_take_25 : decode cX2_take 25 = .ok (.iastore, 1) := by decide +kernel
theorem dX2_take_26 : decode cX2_take 26 = .ok (.aload_n 0, 1) := by decide +kernel
theorem dX2_take_27 : decode cX2_take 27 = .ok (.dup, 1) := by decide +kernel
theorem dX2_take_28 : decode cX2_take 28 = .ok (.getfield 9, 3) := by decide +kernel
theorem dX2_take_31 : decode cX2_take 31 = .ok (.iconst 1, 1) := by decide +kernel
theorem dX2_take_32 : decode cX2_take 32 = .ok (.iadd, 1) := by decide +kernel
theorem dX2_take_33 : decode cX2_take 33 = .ok (.putfield 9, 3) := by decide +kernel
theorem dX2_take_36 : decode cX2_take 36 = .ok (.return_, 1) := by decide +kernel
theorem dX2_tell_0 : decode cX2_tell 0 = .ok (.aload_n 0, 1) := by decide +kernel
theorem dX2_tell_1 : decode cX2_tell 1 = .ok (.iconst 0, 1) := by decide +kernel
theorem dX2_tell_2 : decode cX2_tell 2 = .ok (.putfield 25, 3) := by decide +kernel
theorem dX2_tell_5 : decode cX2_tell 5 = .ok (.aload_n 0, 1) := by decide +kernel
theorem dX2_tell_6 : decode cX2_tell 6 = .ok (.invokevirtual 34, 3) := by decide +kernel
theorem dX2_tell_9 : decode cX2_tell 9 = .ok (.iconst 1, 1) := by decide +kernel
theorem dX2_tell_10 : decode cX2_tell 10 = .ok (.istore_n 2, 1) := by decide +kernel
theorem dX2_tell_11 : decode cX2_tell 11 = .ok (.iload_n 2, 1) := by decide +kernel
theorem dX2_tell_12 : decode cX2_tell 12 = .ok (.bipush 120, 2) := by decide +kernel
theorem dX2_tell_14 : decode cX2_tell 14 = .ok (.if_icmp .gt 52, 3) := by decide +kernel
theorem dX2_tell_17 : decode cX2_tell 17 = .ok (.aload_n 0, 1) := by decide +kernel
theorem dX2_tell_18 : decode cX2_tell 18 = .ok (.aload_n 1, 1) := by decide +kernel
theorem dX2_tell_19 : decode cX2_tell 19 = .ok (.invokevirtual 37, 3) := by decide +kernel
theorem dX2_tell_22 : decode cX2_tell 22 = .ok (.ifCond .ne 10, 3) := by decide +kernel
theorem dX2_tell_25 : decode cX2_tell 25 = .ok (.iconst (-1), 1) := by decide +kernel
theorem dX2_tell_26 : decode cX2_tell 26 = .ok (.aload_n 0, 1) := by decide +kernel
theorem dX2_tell_27 : decode cX2_tell 27 = .ok (.getfield 22, 3) := by decide +kernel
theorem dX2_tell_30 : decode cX2_tell 30 = .ok (.isub, 1) := by decide +kernel
theorem dX2_tell_31 : decode cX2_tell 31 = .ok (.ireturn, 1) := by decide +kernel
theorem dX2_tell_32 : decode cX2_tell 32 = .ok (.aload_n 0, 1) := by decide +kernel
theorem dX2_tell_33 : decode cX2_tell 33 = .ok (.getfield 19, 3) := by decide +kernel
theorem dX2_tell_36 : decode cX2_tell 36 = .ok (.ifCond .ne 5, 3) := by decide +kernel
theorem dX2_tell_39 : decode cX2_tell 39 = .ok (.iload_n 2, 1) := by decide +kernel
theorem dX2_tell_40 : decode cX2_tell 40 = .ok (.ireturn, 1) := by decide +kernel
theorem dX2_tell_41 : decode cX2_tell 41 = .ok (.aload_n 0, 1) := by decide +kernel
theorem dX2_tell_42 : decode cX2_tell 42 = .ok (.getfield 19, 3) := by decide +kernel
theorem dX2_tell_45 : decode cX2_tell 45 = .ok (.iconst 3, 1) := by decide +kernel
theorem dX2_tell_46 : decode cX2_tell 46 = .ok (.if_icmp .eq 10, 3) := by decide +kernel
theorem dX2_tell_49 : decode cX2_tell 49 = .ok (.iconst (-1), 1) := by decide +kernel
theorem dX2_tell_50 : decode cX2_tell 50 = .ok (.aload_n 0, 1) := by decide +kernel
theorem dX2_tell_51 : decode cX2_tell 51 = .ok (.getfield 22, 3) := by decide +kernel
theorem dX2_tell_54 : decode cX2_tell 54 = .ok (.isub, 1) := by decide +kernel
theorem dX2_tell_55 : decode cX2_tell 55 = .ok (.ireturn, 1) := by decide +kernel
theorem dX2_tell_56 : decode cX2_tell 56 = .ok (.aload_n 0, 1) := by decide +kernel
theorem dX2_tell_57 : decode cX2_tell 57 = .ok (.invokevirtual 34, 3) := by decide +kernel
theorem dX2_tell_60 : decode cX2_tell 60 = .ok (.iinc 2 1, 3) := by decide +kernel
theorem dX2_tell_63 : decode cX2_tell 63 = .ok (.goto (-52), 3) := by decide +kernel
theorem dX2_tell_66 : decode cX2_tell 66 = .ok (.iconst (-1), 1) := by decide +kernel
theorem dX2_tell_67 : decode cX2_tell 67 = .ok (.aload_n 0, 1) := by decide +kernel
theorem dX2_tell_68 : decode cX2_tell 68 = .ok (.getfield 22, 3) := by decide +kernel
theorem dX2_tell_71 : decode cX2_tell 71 = .ok (.isub, 1) := by decide +kernel
theorem dX2_tell_72 : decode cX2_tell 72 = .ok (.ireturn, 1) := by decide +kernel
theorem dX2_isItem_0 : decode cX2_isItem 0 = .ok (.aload_n 0, 1) := by decide +kernel
theorem dX2_isItem_1 : decode cX2_isItem 1 = .ok (.invokevirtual 41, 3) := by decide +kernel
theorem dX2_isItem_4 : decode cX2_isItem 4 = .ok (.istore_n 2, 1) := by decide +kernel
theorem dX2_isItem_5 : decode cX2_isItem 5 = .ok (.iload_n 2, 1) := by decide +kernel
theorem dX2_isItem_6 : decode cX2_isItem 6 = .ok (.ifCond .lt 10, 3) := by decide +kernel
theorem dX2_isItem_9 : decode cX2_isItem 9 = .ok (.aload_n 0, 1) := by decide +kernel
theorem dX2_isItem_10 : decode cX2_isItem 10 = .ok (.aload_n 1, 1) := by decide +kernel
theorem dX2_isItem_11 : decode cX2_isItem 11 = .ok (.iload_n 2, 1) := by decide +kernel
theorem dX2_isItem_12 : decode cX2_isItem 12 = .ok (.invokevirtual 45, 3) := by decide +kernel
theorem dX2_isItem_15 : decode cX2_isItem 15 = .ok (.ireturn, 1) := by decide +kernel
theorem dX2_isItem_16 : decode cX2_isItem 16 = .ok (.aload_n 0, 1) := by decide +kernel
theorem dX2_isItem_17 : decode cX2_isItem 17 = .ok (.ldc 49, 2) := by decide +kernel
theorem dX2_isItem_19 : decode cX2_isItem 19 = .ok (.invokevirtual 51, 3) := by decide +kernel
theorem dX2_isItem_22 : decode cX2_isItem 22 = .ok (.ifCond .eq 9, 3) := by decide +kernel
theorem dX2_isItem_25 : decode cX2_isItem 25 = .ok (.aload_n 0, 1) := by decide +kernel
theorem dX2_isItem_26 : decode cX2_isItem 26 = .ok (.aload_n 1, 1) := by decide +kernel
theorem dX2_isItem_27 : decode cX2_isItem 27 = .ok (.invokevirtual 55, 3) := by decide +kernel
theorem dX2_isItem_30 : decode cX2_isItem 30 = .ok (.ireturn, 1) := by decide +kernel
theorem dX2_isItem_31 : decode cX2_isItem 31 = .ok (.aload_n 0, 1) := by decide +kernel
theorem dX2_isItem_32 : decode cX2_isItem 32 = .ok (.ldc 58, 2) := by decide +kernel
theorem dX2_isItem_34 : decode cX2_isItem 34 = .ok (.invokevirtual 51, 3) := by decide +kernel
theorem dX2_isItem_37 : decode cX2_isItem 37 = .ok (.ifCond .eq 10, 3) := by decide +kernel
theorem dX2_isItem_40 : decode cX2_isItem 40 = .ok (.aload_n 0, 1) := by decide +kernel
theorem dX2_isItem_41 : decode cX2_isItem 41 = .ok (.aload_n 1, 1) := by decide +kernel
theorem dX2_isItem_42 : decode cX2_isItem 42 = .ok (.iconst 1, 1) := by decide +kernel
theorem dX2_isItem_43 : decode cX2_isItem 43 = .ok (.invokevirtual 60, 3) := by decide +kernel
theorem dX2_isItem_46 : decode cX2_isItem 46 = .ok (.ireturn, 1) := by decide +kernel
theorem dX2_isItem_47 : decode cX2_isItem 47 = .ok (.aload_n 0, 1) := by decide +kernel
theorem dX2_isItem_48 : decode cX2_isItem 48 = .ok (.ldc 63, 2) := by decide +kernel
theorem dX2_isItem_50 : decode cX2_isItem 50 = .ok (.invokevirtual 51, 3) := by decide +kernel
theorem dX2_isItem_53 : decode cX2_isItem 53 = .ok (.ifCond .eq 10, 3) := by decide +kernel
theorem dX2_isItem_56 : decode cX2_isItem 56 = .ok (.aload_n 0, 1) := by decide +kernel
theorem dX2_isItem_57 : decode cX2_isItem 57 = .ok (.aload_n 1, 1) := by decide +kernel
theorem dX2_isItem_58 : decode cX2_isItem 58 = .ok (.iconst 0, 1) := by decide +kernel
theorem dX2_isItem_59 : decode cX2_isItem 59 = .ok (.invokevirtual 60, 3) := by decide +kernel
theorem dX2_isItem_62 : decode cX2_isItem 62 = .ok (.ireturn, 1) := by decide +kernel
theorem dX2_isItem_63 : decode cX2_isItem 63 = .ok (.aload_n 0, 1) := by decide +kernel
theorem dX2_isItem_64 : decode cX2_isItem 64 = .ok (.ldc 65, 2) := by decide +kernel
theorem dX2_isItem_66 : decode cX2_isItem 66 = .ok (.invokevirtual 51, 3) := by decide +kernel
theorem dX2_isItem_69 : decode cX2_isItem 69 = .ok (.ifCond .eq 28, 3) := by decide +kernel
theorem dX2_isItem_72 : decode cX2_isItem 72 = .ok (.aload_n 0, 1) := by decide +kernel
theorem dX2_isItem_73 : decode cX2_isItem 73 = .ok (.invokevirtual 34, 3) := by decide +kernel
theorem dX2_isItem_76 : decode cX2_isItem 76 = .ok (.aload_n 0, 1) := by decide +kernel
theorem dX2_isItem_77 : decode cX2_isItem 77 = .ok (.bipush 8, 2) := by decide +kernel
theorem dX2_isItem_79 : decode cX2_isItem 79 = .ok (.invokevirtual 67, 3) := by decide +kernel
theorem dX2_isItem_82 : decode cX2_isItem 82 = .ok (.ifCond .ne 5, 3) := by decide +kernel
theorem dX2_isItem_85 : decode cX2_isItem 85 = .ok (.iconst 0, 1) := by decide +kernel
theorem dX2_isItem_86 : decode cX2_isItem 86 = .ok (.ireturn, 1) := by decide +kernel
theorem dX2_isItem_87 : decode cX2_isItem 87 = .ok (.aload_n 1, 1) := by decide +kernel
theorem dX2_isItem_88 : decode cX2_isItem 88 = .ok (.aload_n 0, 1) := by decide +kernel
theorem dX2_isItem_89 : decode cX2_isItem 89 = .ok (.getfield 31, 3) := by decide +kernel
theorem dX2_isItem_92 : decode cX2_isItem 92 = .ok (.putfield 71, 3) := by decide +kernel
theorem dX2_isItem_95 : decode cX2_isItem 95 = .ok (.iconst 1, 1) := by decide +kernel
theorem dX2_isItem_96 : decode cX2_isItem 96 = .ok (.ireturn, 1) := by decide +kernel
theorem dX2_isItem_97 : decode cX2_isItem 97 = .ok (.iconst 0, 1) := by decide +kernel
theorem dX2_isItem_98 : decode cX2_isItem 98 = .ok (.ireturn, 1) := by decide +kernel
theorem dX2_isFigure_0 : decode cX2_isFigure 0 = .ok (.aload_n 1, 1) := by decide +kernel
theorem dX2_isFigure_1 : decode cX2_isFigure 1 = .ok (.invokevirtual 76, 3) := by decide +kernel
theorem dX2_isFigure_4 : decode cX2_isFigure 4 = .ok (.ifCond .eq 5, 3) := by decide +kernel
theorem dX2_isFigure_7 : decode cX2_isFigure 7 = .ok (.iconst 0, 1) := by decide +kernel
theorem dX2_isFigure_8 : decode cX2_isFigure 8 = .ok (.ireturn, 1) := by decide +kernel
theorem dX2_isFigure_9 : decode cX2_isFigure 9 = .ok (.aload_n 0, 1) := by decide +kernel
theorem dX2_isFigure_10 : decode cX2_isFigure 10 = .ok (.invokevirtual 34, 3) := by decide +kernel
theorem dX2_isFigure_13 : decode cX2_isFigure 13 = .ok (.aload_n 0, 1) := by decide +kernel
theorem dX2_isFigure_14 : decode cX2_isFigure 14 = .ok (.iconst 3, 1) := by decide +kernel
theorem dX2_isFigure_15 : decode cX2_isFigure 15 = .ok (.invokevirtual 67, 3) := by decide +kernel
theorem dX2_isFigure_18 : decode cX2_isFigure 18 = .ok (.ifCond .ne 5, 3) := by decide +kernel
theorem dX2_isFigure_21 : decode cX2_isFigure 21 = .ok (.iconst 0, 1) := by decide +kernel
theorem dX2_isFigure_22 : decode cX2_isFigure 22 = .ok (.ireturn, 1) := by decide +kernel
theorem dX2_isFigure_23 : decode cX2_isFigure 23 = .ok (.aload_n 0, 1) := by decide +kernel
theorem dX2_isFigure_24 : decode cX2_isFigure 24 = .ok (.getfield 31, 3) := by decide +kernel
theorem dX2_isFigure_27 : decode cX2_isFigure 27 = .ok (.istore_n 3, 1) := by decide +kernel
theorem dX2_isFigure_28 : decode cX2_isFigure 28 = .ok (.aload_n 0, 1) := by decide +kernel
theorem dX2_isFigure_29 : decode cX2_isFigure 29 = .ok (.bipush 19, 2) := by decide +kernel
theorem dX2_isFigure_31 : decode cX2_isFigure 31 = .ok (.invokevirtual 67, 3) := by decide +kernel
theorem dX2_isFigure_34 : decode cX2_isFigure 34 = .ok (.ifCond .ne 5, 3) := by decide +kernel
theorem dX2_isFigure_37 : decode cX2_isFigure 37 = .ok (.iconst 0, 1) := by decide +kernel
theorem dX2_isFigure_38 : decode cX2_isFigure 38 = .ok (.ireturn, 1) := by decide +kernel
theorem dX2_isFigure_39 : decode cX2_isFigure 39 = .ok (.aload_n 1, 1) := by decide +kernel
theorem dX2_isFigure_40 : decode cX2_isFigure 40 = .ok (.iload_n 2, 1) := by decide +kernel
theorem dX2_isFigure_41 : decode cX2_isFigure 41 = .ok (.iload_n 3, 1) := by decide +kernel
theorem dX2_isFigure_42 : decode cX2_isFigure 42 = .ok (.aload_n 0, 1) := by decide +kernel
theorem dX2_isFigure_43 : decode cX2_isFigure 43 = .ok (.getfield 31, 3) := by decide +kernel
theorem dX2_isFigure_46 : decode cX2_isFigure 46 = .ok (.invokevirtual 80, 3) := by decide +kernel
theorem dX2_isFigure_49 : decode cX2_isFigure 49 = .ok (.istore 4, 2) := by decide +kernel
theorem dX2_isFigure_51 : decode cX2_isFigure 51 = .ok (.aload_n 0, 1) := by decide +kernel
theorem dX2_isFigure_52 : decode cX2_isFigure 52 = .ok (.ldc 84, 2) := by decide +kernel
theorem dX2_isFigure_54 : decode cX2_isFigure 54 = .ok (.invokevirtual 51, 3) := by decide +kernel
theorem dX2_isFigure_57 : decode cX2_isFigure 57 = .ok (.ifCond .eq 29, 3) := by decide +kernel
theorem dX2_isFigure_60 : decode cX2_isFigure 60 = .ok (.aload_n 0, 1) := by decide +kernel
theorem dX2_isFigure_61 : decode cX2_isFigure 61 = .ok (.invokevirtual 34, 3) := by decide +kernel
theorem dX2_isFigure_64 : decode cX2_isFigure 64 = .ok (.aload_n 0, 1) := by decide +kernel
theorem dX2_isFigure_65 : decode cX2_isFigure 65 = .ok (.bipush 99, 2) := by decide +kernel
theorem dX2_isFigure_67 : decode cX2_isFigure 67 = .ok (.invokevirtual 67, 3) := by decide +kernel
theorem dX2_isFigure_70 : decode cX2_isFigure 70 = .ok (.ifCond .ne 5, 3) := by decide +kernel
theorem dX2_isFigure_73 : decode cX2_isFigure 73 = .ok (.iconst 0, 1) := by decide +kernel
theorem dX2_isFigure_74 : decode cX2_isFigure 74 = .ok (.ireturn, 1) := by decide +kernel
theorem dX2_isFigure_75 : decode cX2_isFigure 75 = .ok (.aload_n 1, 1) := by decide +kernel
theorem dX2_isFigure_76 : decode cX2_isFigure 76 = .ok (.iload 4, 2) := by decide +kernel
theorem dX2_isFigure_78 : decode cX2_isFigure 78 = .ok (.iconst 3, 1) := by decide +kernel
theorem dX2_isFigure_79 : decode cX2_isFigure 79 = .ok (.aload_n 0, 1) := by decide +kernel
theorem dX2_isFigure_80 : decode cX2_isFigure 80 = .ok (.getfield 31, 3) := by decide +kernel
theorem dX2_isFigure_83 : decode cX2_isFigure 83 = .ok (.invokevirtual 86, 3) := by decide +kernel
theorem dX2_isFigure_86 : decode cX2_isFigure 86 = .ok (.aload_n 0, 1) := by decide +kernel
theorem dX2_isFigure_87 : decode cX2_isFigure 87 = .ok (.ldc 90, 2) := by decide +kernel
theorem dX2_isFigure_89 : decode cX2_isFigure 89 = .ok (.invokevirtual 51, 3) := by decide +kernel
theorem dX2_isFigure_92 : decode cX2_isFigure 92 = .ok (.ifCond .eq 15, 3) := by decide +kernel
theorem dX2_isFigure_95 : decode cX2_isFigure 95 = .ok (.aload_n 0, 1) := by decide +kernel
theorem dX2_isFigure_96 : decode cX2_isFigure 96 = .ok (.invokevirtual 34, 3) := by decide +kernel
theorem dX2_isFigure_99 : decode cX2_isFigure 99 = .ok (.aload_n 1, 1) := by decide +kernel
theorem dX2_isFigure_100 : decode cX2_isFigure 100 = .ok (.iload 4, 2) := by decide +kernel
theorem dX2_isFigure_102 : decode cX2_isFigure 102 = .ok (.iconst 4, 1) := by decide +kernel
theorem dX2_isFigure_103 : decode cX2_isFigure 103 = .ok (.iconst 1, 1) := by decide +kernel
theorem dX2_isFigure_104 : decode cX2_isFigure 104 = .ok (.invokevirtual 86, 3) := by decide +kernel
theorem dX2_isFigure_107 : decode cX2_isFigure 107 = .ok (.iconst 1, 1) := by decide +kernel
theorem dX2_isFigure_108 : decode cX2_isFigure 108 = .ok (.ireturn, 1) := by decide +kernel
theorem dX2_isWanting_0 : decode cX2_isWanting 0 = .ok (.aload_n 0, 1) := by decide +kernel
theorem dX2_isWanting_1 : decode cX2_isWanting 1 = .ok (.invokevirtual 34, 3) := by decide +kernel
theorem dX2_isWanting_4 : decode cX2_isWanting 4 = .ok (.aload_n 0, 1) := by decide +kernel
theorem dX2_isWanting_5 : decode cX2_isWanting 5 = .ok (.aload_n 1, 1) := by decide +kernel
theorem dX2_isWanting_6 : decode cX2_isWanting 6 = .ok (.getfield 92, 3) := by decide +kernel
theorem dX2_isWanting_9 : decode cX2_isWanting 9 = .ok (.iconst 1, 1) := by decide +kernel
theorem dX2_isWanting_10 : decode cX2_isWanting 10 = .ok (.isub, 1) := by decide +kernel
theorem dX2_isWanting_11 : decode cX2_isWanting 11 = .ok (.invokevirtual 67, 3) := by decide +kernel
theorem dX2_isWanting_14 : decode cX2_isWanting 14 = .ok (.ifCond .ne 5, 3) := by decide +kernel
theorem dX2_isWanting_17 : decode cX2_isWanting 17 = .ok (.iconst 0, 1) := by decide +kernel
theorem dX2_isWanting_18 : decode cX2_isWanting 18 = .ok (.ireturn, 1) := by decide +kernel
theorem dX2_isWanting_19 : decode cX2_isWanting 19 = .ok (.aload_n 0, 1) := by decide +kernel
theorem dX2_isWanting_20 : decode cX2_isWanting 20 = .ok (.getfield 31, 3) := by decide +kernel
theorem dX2_isWanting_23 : decode cX2_isWanting 23 = .ok (.istore_n 2, 1) := by decide +kernel
theorem dX2_isWanting_24 : decode cX2_isWanting 24 = .ok (.aload_n 0, 1) := by decide +kernel
theorem dX2_isWanting_25 : decode cX2_isWanting 25 = .ok (.invokevirtual 95, 3) := by decide +kernel
theorem dX2_isWanting_28 : decode cX2_isWanting 28 = .ok (.istore_n 3, 1) := by decide +kernel
theorem dX2_isWanting_29 : decode cX2_isWanting 29 = .ok (.iload_n 3, 1) := by decide +kernel
theorem dX2_isWanting_30 : decode cX2_isWanting 30 = .ok (.ifCond .ge 5, 3) := by decide +kernel
theorem dX2_isWanting_33 : decode cX2_isWanting 33 = .ok (.iconst 0, 1) := by decide +kernel
theorem dX2_isWanting_34 : decode cX2_isWanting 34 = .ok (.ireturn, 1) := by decide +kernel
theorem dX2_isWanting_35 : decode cX2_isWanting 35 = .ok (.aload_n 0, 1) := by decide +kernel
theorem dX2_isWanting_36 : decode cX2_isWanting 36 = .ok (.invokevirtual 34, 3) := by decide +kernel
theorem dX2_isWanting_39 : decode cX2_isWanting 39 = .ok (.iload_n 3, 1) := by decide +kernel
theorem dX2_isWanting_40 : decode cX2_isWanting 40 = .ok (.iconst 1, 1) := by decide +kernel
theorem dX2_isWanting_41 : decode cX2_isWanting 41 = .ok (.if_icmp .eq 8, 3) := by decide +kernel
theorem dX2_isWanting_44 : decode cX2_isWanting 44 = .ok (.iload_n 3, 1) := by decide +kernel
theorem dX2_isWanting_45 : decode cX2_isWanting 45 = .ok (.iconst 2, 1) := by decide +kernel
theorem dX2_isWanting_46 : decode cX2_isWanting 46 = .ok (.if_icmp .ne 29, 3) := by decide +kernel
theorem dX2_isWanting_49 : decode cX2_isWanting 49 = .ok (.aload_n 0, 1) := by decide +kernel
theorem dX2_isWanting_50 : decode cX2_isWanting 50 = .ok (.aload_n 1, 1) := by decide +kernel
theorem dX2_isWanting_51 : decode cX2_isWanting 51 = .ok (.getfield 92, 3) := by decide +kernel
theorem dX2_isWanting_54 : decode cX2_isWanting 54 = .ok (.iconst 1, 1) := by decide +kernel
theorem dX2_isWanting_55 : decode cX2_isWanting 55 = .ok (.isub, 1) := by decide +kernel
theorem dX2_isWanting_56 : decode cX2_isWanting 56 = .ok (.invokevirtual 67, 3) := by decide +kernel
theorem dX2_isWanting_59 : decode cX2_isWanting 59 = .ok (.ifCond .ne 5, 3) := by decide +kernel
theorem dX2_isWanting_62 : decode cX2_isWanting 62 = .ok (.iconst 0, 1) := by decide +kernel
theorem dX2_isWanting_63 : decode cX2_isWanting 63 = .ok (.ireturn, 1) := by decide +kernel
theorem dX2_isWanting_64 : decode cX2_isWanting 64 = .ok (.aload_n 1, 1) := by decide +kernel
theorem dX2_isWanting_65 : decode cX2_isWanting 65 = .ok (.iload_n 2, 1) := by decide +kernel
theorem dX2_isWanting_66 : decode cX2_isWanting 66 = .ok (.bipush 6, 2) := by decide +kernel
theorem dX2_isWanting_68 : decode cX2_isWanting 68 = .ok (.aload_n 0, 1) := by decide +kernel
theorem dX2_isWanting_69 : decode cX2_isWanting 69 = .ok (.getfield 31, 3) := by decide +kernel
theorem dX2_isWanting_72 : decode cX2_isWanting 72 = .ok (.invokevirtual 86, 3) := by decide +kernel
theorem dX2_isWanting_75 : decode cX2_isWanting 75 = .ok (.aload_n 1, 1) := by decide +kernel
theorem dX2_isWanting_76 : decode cX2_isWanting 76 = .ok (.iload_n 2, 1) := by decide +kernel
theorem dX2_isWanting_77 : decode cX2_isWanting 77 = .ok (.iconst 5, 1) := by decide +kernel
theorem dX2_isWanting_78 : decode cX2_isWanting 78 = .ok (.iload_n 3, 1) := by decide +kernel
theorem dX2_isWanting_79 : decode cX2_isWanting 79 = .ok (.invokevirtual 86, 3) := by decide +kernel
theorem dX2_isWanting_82 : decode cX2_isWanting 82 = .ok (.iconst 1, 1) := by decide +kernel
theorem dX2_isWanting_83 : decode cX2_isWanting 83 = .ok (.ireturn, 1) := by decide +kernel
theorem dX2_isLetting_0 : decode cX2_isLetting 0 = .ok (.aload_n 0, 1) := by decide +kernel
theorem dX2_isLetting_1 : decode cX2_isLetting 1 = .ok (.invokevirtual 34, 3) := by decide +kernel
theorem dX2_isLetting_4 : decode cX2_isLetting 4 = .ok (.aload_n 0, 1) := by decide +kernel
theorem dX2_isLetting_5 : decode cX2_isLetting 5 = .ok (.aload_n 1, 1) := by decide +kernel
theorem dX2_isLetting_6 : decode cX2_isLetting 6 = .ok (.getfield 92, 3) := by decide +kernel
theorem dX2_isLetting_9 : decode cX2_isLetting 9 = .ok (.iconst 1, 1) := by decide +kernel
theorem dX2_isLetting_10 : decode cX2_isLetting 10 = .ok (.isub, 1) := by decide +kernel
theorem dX2_isLetting_11 : decode cX2_isLetting 11 = .ok (.invokevirtual 67, 3) := by decide +kernel
theorem dX2_isLetting_14 : decode cX2_isLetting 14 = .ok (.ifCond .ne 5, 3) := by decide +kernel
theorem dX2_isLetting_17 : decode cX2_isLetting 17 = .ok (.iconst 0, 1) := by decide +kernel
theorem dX2_isLetting_18 : decode cX2_isLetting 18 = .ok (.ireturn, 1) := by decide +kernel
theorem dX2_isLetting_19 : decode cX2_isLetting 19 = .ok (.aload_n 1, 1) := by decide +kernel
theorem dX2_isLetting_20 : decode cX2_isLetting 20 = .ok (.aload_n 0, 1) := by decide +kernel
theorem dX2_isLetting_21 : decode cX2_isLetting 21 = .ok (.getfield 31, 3) := by decide +kernel
theorem dX2_isLetting_24 : decode cX2_isLetting 24 = .ok (.bipush 7, 2) := by decide +kernel
theorem dX2_isLetting_26 : decode cX2_isLetting 26 = .ok (.iload_n 2, 1) := by decide +kernel
theorem dX2_isLetting_27 : decode cX2_isLetting 27 = .ok (.invokevirtual 86, 3) := by decide +kernel
theorem dX2_isLetting_30 : decode cX2_isLetting 30 = .ok (.iconst 1, 1) := by decide +kernel
theorem dX2_isLetting_31 : decode cX2_isLetting 31 = .ok (.ireturn, 1) := by decide +kernel
theorem dX2_takesNumber_0 : decode cX2_takesNumber 0 = .ok (.aload_n 0, 1) := by decide +kernel
theorem dX2_takesNumber_1 : decode cX2_takesNumber 1 = .ok (.getfield 19, 3) := by decide +kernel
theorem dX2_takesNumber_4 : decode cX2_takesNumber 4 = .ok (.iconst 2, 1) := by decide +kernel
theorem dX2_takesNumber_5 : decode cX2_takesNumber 5 = .ok (.if_icmp .ne 11, 3) := by decide +kernel
theorem dX2_takesNumber_8 : decode cX2_takesNumber 8 = .ok (.aload_n 0, 1) := by decide +kernel
theorem dX2_takesNumber_9 : decode cX2_takesNumber 9 = .ok (.getfield 28, 3) := by decide +kernel
theorem dX2_takesNumber_12 : decode cX2_takesNumber 12 = .ok (.iload_n 1, 1) := by decide +kernel
theorem dX2_takesNumber_13 : decode cX2_takesNumber 13 = .ok (.if_icmp .le 5, 3) := by decide +kernel
theorem dX2_takesNumber_16 : decode cX2_takesNumber 16 = .ok (.iconst 0, 1) := by decide +kernel
theorem dX2_takesNumber_17 : decode cX2_takesNumber 17 = .ok (.ireturn, 1) := by decide +kernel
theorem dX2_takesNumber_18 : decode cX2_takesNumber 18 = .ok (.aload_n 0, 1) := by decide +kernel
theorem dX2_takesNumber_19 : decode cX2_takesNumber 19 = .ok (.aload_n 0, 1) := by decide +kernel
theorem dX2_takesNumber_20 : decode cX2_takesNumber 20 = .ok (.getfield 28, 3) := by decide +kernel
theorem dX2_takesNumber_23 : decode cX2_takesNumber 23 = .ok (.putfield 31, 3) := by decide +kernel
theorem dX2_takesNumber_26 : decode cX2_takesNumber 26 = .ok (.aload_n 0, 1) := by decide +kernel
theorem dX2_takesNumber_27 : decode cX2_takesNumber 27 = .ok (.invokevirtual 34, 3) := by decide +kernel
theorem dX2_takesNumber_30 : decode cX2_takesNumber 30 = .ok (.iconst 1, 1) := by decide +kernel
theorem dX2_takesNumber_31 : decode cX2_takesNumber 31 = .ok (.ireturn, 1) := by decide +kernel
theorem dX2_kindNamed_0 : decode cX2_kindNamed 0 = .ok (.aload_n 0, 1) := by decide +kernel
theorem dX2_kindNamed_1 : decode cX2_kindNamed 1 = .ok (.ldc 98, 2) := by decide +kernel
theorem dX2_kindNamed_3 : decode cX2_kindNamed 3 = .ok (.invokevirtual 51, 3) := by decide +kernel
theorem dX2_kindNamed_6 : decode cX2_kindNamed 6 = .ok (.ifCond .eq 5, 3) := by decide +kernel
theorem dX2_kindNamed_9 : decode cX2_kindNamed 9 = .ok (.iconst 0, 1) := by decide +kernel
theorem dX2_kindNamed_10 : decode cX2_kindNamed 10 = .ok (.ireturn, 1) := by decide +kernel
theorem dX2_kindNamed_11 : decode cX2_kindNamed 11 = .ok (.aload_n 0, 1) := by decide +kernel
theorem dX2_kindNamed_12 : decode cX2_kindNamed 12 = .ok (.ldc 100, 2) := by decide +kernel
theorem dX2_kindNamed_14 : decode cX2_kindNamed 14 = .ok (.invokevirtual 51, 3) := by decide +kernel
theorem dX2_kindNamed_17 : decode cX2_kindNamed 17 = .ok (.ifCond .eq 5, 3) := by decide +kernel
theorem dX2_kindNamed_20 : decode cX2_kindNamed 20 = .ok (.iconst 1, 1) := by decide +kernel
theorem dX2_kindNamed_21 : decode cX2_kindNamed 21 = .ok (.ireturn, 1) := by decide +kernel
theorem dX2_kindNamed_22 : decode cX2_kindNamed 22 = .ok (.aload_n 0, 1) := by decide +kernel
theorem dX2_kindNamed_23 : decode cX2_kindNamed 23 = .ok (.ldc 102, 2) := by decide +kernel
theorem dX2_kindNamed_25 : decode cX2_kindNamed 25 = .ok (.invokevirtual 51, 3) := by decide +kernel
theorem dX2_kindNamed_28 : decode cX2_kindNamed 28 = .ok (.ifCond .eq 5, 3) := by decide +kernel
theorem dX2_kindNamed_31 : decode cX2_kindNamed 31 = .ok (.iconst 2, 1) := by decide +kernel
theorem dX2_kindNamed_32 : decode cX2_kindNamed 32 = .ok (.ireturn, 1) := by decide +kernel
theorem dX2_kindNamed_33 : decode cX2_kindNamed 33 = .ok (.aload_n 0, 1) := by decide +kernel
theorem dX2_kindNamed_34 : decode cX2_kindNamed 34 = .ok (.ldc 104, 2) := by decide +kernel
theorem dX2_kindNamed_36 : decode cX2_kindNamed 36 = .ok (.invokevirtual 51, 3) := by decide +kernel
theorem dX2_kindNamed_39 : decode cX2_kindNamed 39 = .ok (.ifCond .eq 5, 3) := by decide +kernel
theorem dX2_kindNamed_42 : decode cX2_kindNamed 42 = .ok (.iconst 3, 1) := by decide +kernel
theorem dX2_kindNamed_43 : decode cX2_kindNamed 43 = .ok (.ireturn, 1) := by decide +kernel
theorem dX2_kindNamed_44 : decode cX2_kindNamed 44 = .ok (.aload_n 0, 1) := by decide +kernel
theorem dX2_kindNamed_45 : decode cX2_kindNamed 45 = .ok (.ldc 106, 2) := by decide +kernel
theorem dX2_kindNamed_47 : decode cX2_kindNamed 47 = .ok (.invokevirtual 51, 3) := by decide +kernel
theorem dX2_kindNamed_50 : decode cX2_kindNamed 50 = .ok (.ifCond .eq 5, 3) := by decide +kernel
theorem dX2_kindNamed_53 : decode cX2_kindNamed 53 = .ok (.iconst 4, 1) := by decide +kernel
theorem dX2_kindNamed_54 : decode cX2_kindNamed 54 = .ok (.ireturn, 1) := by decide +kernel
theorem dX2_kindNamed_55 : decode cX2_kindNamed 55 = .ok (.aload_n 0, 1) := by decide +kernel
theorem dX2_kindNamed_56 : decode cX2_kindNamed 56 = .ok (.ldc 108, 2) := by decide +kernel
theorem dX2_kindNamed_58 : decode cX2_kindNamed 58 = .ok (.invokevirtual 51, 3) := by decide +kernel
theorem dX2_kindNamed_61 : decode cX2_kindNamed 61 = .ok (.ifCond .eq 7, 3) := by decide +kernel
theorem dX2_kindNamed_64 : decode cX2_kindNamed 64 = .ok (.iconst 5, 1) := by decide +kernel
theorem dX2_kindNamed_65 : decode cX2_kindNamed 65 = .ok (.goto 4, 3) := by decide +kernel
theorem dX2_kindNamed_68 : decode cX2_kindNamed 68 = .ok (.iconst (-1), 1) := by decide +kernel
theorem dX2_kindNamed_69 : decode cX2_kindNamed 69 = .ok (.ireturn, 1) := by decide +kernel
theorem dX2_wantNamed_0 : decode cX2_wantNamed 0 = .ok (.aload_n 0, 1) := by decide +kernel
theorem dX2_wantNamed_1 : decode cX2_wantNamed 1 = .ok (.ldc 110, 2) := by decide +kernel
theorem dX2_wantNamed_3 : decode cX2_wantNamed 3 = .ok (.invokevirtual 51, 3) := by decide +kernel
theorem dX2_wantNamed_6 : decode cX2_wantNamed 6 = .ok (.ifCond .eq 5, 3) := by decide +kernel
theorem dX2_wantNamed_9 : decode cX2_wantNamed 9 = .ok (.iconst 0, 1) := by decide +kernel
theorem dX2_wantNamed_10 : decode cX2_wantNamed 10 = .ok (.ireturn, 1) := by decide +kernel
theorem dX2_wantNamed_11 : decode cX2_wantNamed 11 = .ok (.aload_n 0, 1) := by decide +kernel
theorem dX2_wantNamed_12 : decode cX2_wantNamed 12 = .ok (.ldc 112, 2) := by decide +kernel
theorem dX2_wantNamed_14 : decode cX2_wantNamed 14 = .ok (.invokevirtual 51, 3) := by decide +kernel
theorem dX2_wantNamed_17 : decode cX2_wantNamed 17 = .ok (.ifCond .eq 5, 3) := by decide +kernel
theorem dX2_wantNamed_20 : decode cX2_wantNamed 20 = .ok (.iconst 1, 1) := by decide +kernel
theorem dX2_wantNamed_21 : decode cX2_wantNamed 21 = .ok (.ireturn, 1) := by decide +kernel
theorem dX2_wantNamed_22 : decode cX2_wantNamed 22 = .ok (.aload_n 0, 1) := by decide +kernel
theorem dX2_wantNamed_23 : decode cX2_wantNamed 23 = .ok (.ldc 114, 2) := by decide +kernel
theorem dX2_wantNamed_25 : decode cX2_wantNamed 25 = .ok (.invokevirtual 51, 3) := by decide +kernel
theorem dX2_wantNamed_28 : decode cX2_wantNamed 28 = .ok (.ifCond .eq 5, 3) := by decide +kernel
theorem dX2_wantNamed_31 : decode cX2_wantNamed 31 = .ok (.iconst 2, 1) := by decide +kernel
theorem dX2_wantNamed_32 : decode cX2_wantNamed 32 = .ok (.ireturn, 1) := by decide +kernel
theorem dX2_wantNamed_33 : decode cX2_wantNamed 33 = .ok (.aload_n 0, 1) := by decide +kernel
theorem dX2_wantNamed_34 : decode cX2_wantNamed 34 = .ok (.ldc 116, 2) := by decide +kernel
theorem dX2_wantNamed_36 : decode cX2_wantNamed 36 = .ok (.invokevirtual 51, 3) := by decide +kernel
theorem dX2_wantNamed_39 : decode cX2_wantNamed 39 = .ok (.ifCond .eq 5, 3) := by decide +kernel
theorem dX2_wantNamed_42 : decode cX2_wantNamed 42 = .ok (.iconst 3, 1) := by decide +kernel
theorem dX2_wantNamed_43 : decode cX2_wantNamed 43 = .ok (.ireturn, 1) := by decide +kernel
theorem dX2_wantNamed_44 : decode cX2_wantNamed 44 = .ok (.aload_n 0, 1) := by decide +kernel
theorem dX2_wantNamed_45 : decode cX2_wantNamed 45 = .ok (.ldc 90, 2) := by decide +kernel
theorem dX2_wantNamed_47 : decode cX2_wantNamed 47 = .ok (.invokevirtual 51, 3) := by decide +kernel
theorem dX2_wantNamed_50 : decode cX2_wantNamed 50 = .ok (.ifCond .eq 7, 3) := by decide +kernel
theorem dX2_wantNamed_53 : decode cX2_wantNamed 53 = .ok (.iconst 4, 1) := by decide +kernel
theorem dX2_wantNamed_54 : decode cX2_wantNamed 54 = .ok (.goto 4, 3) := by decide +kernel
theorem dX2_wantNamed_57 : decode cX2_wantNamed 57 = .ok (.iconst (-1), 1) := by decide +kernel
theorem dX2_wantNamed_58 : decode cX2_wantNamed 58 = .ok (.ireturn, 1) := by decide +kernel
theorem dX2_isWord_0 : decode cX2_isWord 0 = .ok (.aload_n 0, 1) := by decide +kernel
theorem dX2_isWord_1 : decode cX2_isWord 1 = .ok (.getfield 19, 3) := by decide +kernel
theorem dX2_isWord_4 : decode cX2_isWord 4 = .ok (.iconst 1, 1) := by decide +kernel
theorem dX2_isWord_5 : decode cX2_isWord 5 = .ok (.if_icmp .ne 19, 3) := by decide +kernel
theorem dX2_isWord_8 : decode cX2_isWord 8 = .ok (.aload_n 0, 1) := by decide +kernel
theorem dX2_isWord_9 : decode cX2_isWord 9 = .ok (.getfield 25, 3) := by decide +kernel
theorem dX2_isWord_12 : decode cX2_isWord 12 = .ok (.aload_n 0, 1) := by decide +kernel
theorem dX2_isWord_13 : decode cX2_isWord 13 = .ok (.getfield 22, 3) := by decide +kernel
theorem dX2_isWord_16 : decode cX2_isWord 16 = .ok (.isub, 1) := by decide +kernel
theorem dX2_isWord_17 : decode cX2_isWord 17 = .ok (.aload_n 1, 1) := by decide +kernel
theorem dX2_isWord_18 : decode cX2_isWord 18 = .ok (.invokevirtual 118, 3) := by decide +kernel
theorem dX2_isWord_21 : decode cX2_isWord 21 = .ok (.if_icmp .eq 5, 3) := by decide +kernel
theorem dX2_isWord_24 : decode cX2_isWord 24 = .ok (.iconst 0, 1) := by decide +kernel
theorem dX2_isWord_25 : decode cX2_isWord 25 = .ok (.ireturn, 1) := by decide +kernel
theorem dX2_isWord_26 : decode cX2_isWord 26 = .ok (.iconst 0, 1) := by decide +kernel
theorem dX2_isWord_27 : decode cX2_isWord 27 = .ok (.istore_n 2, 1) := by decide +kernel
theorem dX2_isWord_28 : decode cX2_isWord 28 = .ok (.iload_n 2, 1) := by decide +kernel
theorem dX2_isWord_29 : decode cX2_isWord 29 = .ok (.aload_n 1, 1) := by decide +kernel
theorem dX2_isWord_30 : decode cX2_isWord 30 = .ok (.invokevirtual 118, 3) := by decide +kernel
theorem dX2_isWord_33 : decode cX2_isWord 33 = .ok (.if_icmp .ge 29, 3) := by decide +kernel
theorem dX2_isWord_36 : decode cX2_isWord 36 = .ok (.aload_n 0, 1) := by decide +kernel
theorem dX2_isWord_37 : decode cX2_isWord 37 = .ok (.aload_n 0, 1) := by decide +kernel
theorem dX2_isWord_38 : decode cX2_isWord 38 = .ok (.getfield 22, 3) := by decide +kernel
theorem dX2_isWord_41 : decode cX2_isWord 41 = .ok (.iload_n 2, 1) := by decide +kernel
theorem dX2_isWord_42 : decode cX2_isWord 42 = .ok (.iadd, 1) := by decide +kernel
theorem dX2_isWord_43 : decode cX2_isWord 43 = .ok (.invokevirtual 122, 3) := by decide +kernel
theorem dX2_isWord_46 : decode cX2_isWord 46 = .ok (.aload_n 1, 1) := by decide +kernel
theorem dX2_isWord_47 : decode cX2_isWord 47 = .ok (.iload_n 2, 1) := by decide +kernel
theorem dX2_isWord_48 : decode cX2_isWord 48 = .ok (.invokevirtual 126, 3) := by decide +kernel
theorem dX2_isWord_51 : decode cX2_isWord 51 = .ok (.if_icmp .eq 5, 3) := by decide +kernel
theorem dX2_isWord_54 : decode cX2_isWord 54 = .ok (.iconst 0, 1) := by decide +kernel
theorem dX2_isWord_55 : decode cX2_isWord 55 = .ok (.ireturn, 1) := by decide +kernel
theorem dX2_isWord_56 : decode cX2_isWord 56 = .ok (.iinc 2 1, 3) := by decide +kernel
theorem dX2_isWord_59 : decode cX2_isWord 59 = .ok (.goto (-31), 3) := by decide +kernel
theorem dX2_isWord_62 : decode cX2_isWord 62 = .ok (.iconst 1, 1) := by decide +kernel
theorem dX2_isWord_63 : decode cX2_isWord 63 = .ok (.ireturn, 1) := by decide +kernel
theorem dX2_advance_0 : decode cX2_advance 0 = .ok (.aload_n 0, 1) := by decide +kernel
theorem dX2_advance_1 : decode cX2_advance 1 = .ok (.aload_n 0, 1) := by decide +kernel
theorem dX2_advance_2 : decode cX2_advance 2 = .ok (.getfield 25, 3) := by decide +kernel
theorem dX2_advance_5 : decode cX2_advance 5 = .ok (.putfield 22, 3) := by decide +kernel
theorem dX2_advance_8 : decode cX2_advance 8 = .ok (.aload_n 0, 1) := by decide +kernel
theorem dX2_advance_9 : decode cX2_advance 9 = .ok (.getfield 22, 3) := by decide +kernel
theorem dX2_advance_12 : decode cX2_advance 12 = .ok (.aload_n 0, 1) := by decide +kernel
theorem dX2_advance_13 : decode cX2_advance 13 = .ok (.getfield 9, 3) := by decide +kernel
theorem dX2_advance_16 : decode cX2_advance 16 = .ok (.if_icmp .ge 29, 3) := by decide +kernel
theorem dX2_advance_19 : decode cX2_advance 19 = .ok (.aload_n 0, 1) := by decide +kernel
theorem dX2_advance_20 : decode cX2_advance 20 = .ok (.aload_n 0, 1) := by decide +kernel
theorem dX2_advance_21 : decode cX2_advance 21 = .ok (.getfield 22, 3) := by decide +kernel
theorem dX2_advance_24 : decode cX2_advance 24 = .ok (.invokevirtual 122, 3) := by decide +kernel
theorem dX2_advance_27 : decode cX2_advance 27 = .ok (.bipush 32, 2) := by decide +kernel
theorem dX2_advance_29 : decode cX2_advance 29 = .ok (.if_icmp .ne 16, 3) := by decide +kernel
theorem dX2_advance_32 : decode cX2_advance 32 = .ok (.aload_n 0, 1) := by decide +kernel
theorem dX2_advance_33 : decode cX2_advance 33 = .ok (.dup, 1) := by decide +kernel
theorem dX2_advance_34 : decode cX2_advance 34 = .ok (.getfield 22, 3) := by decide +kernel
theorem dX2_advance_37 : decode cX2_advance 37 = .ok (.iconst 1, 1) := by decide +kernel
theorem dX2_advance_38 : decode cX2_advance 38 = .ok (.iadd, 1) := by decide +kernel
theorem dX2_advance_39 : decode cX2_advance 39 = .ok (.putfield 22, 3) := by decide +kernel
theorem dX2_advance_42 : decode cX2_advance 42 = .ok (.goto (-34), 3) := by decide +kernel
theorem dX2_advance_45 : decode cX2_advance 45 = .ok (.aload_n 0, 1) := by decide +kernel
theorem dX2_advance_46 : decode cX2_advance 46 = .ok (.aload_n 0, 1) := by decide +kernel
theorem dX2_advance_47 : decode cX2_advance 47 = .ok (.aload_n 0, 1) := by decide +kernel
theorem dX2_advance_48 : decode cX2_advance 48 = .ok (.getfield 22, 3) := by decide +kernel
theorem dX2_advance_51 : decode cX2_advance 51 = .ok (.invokevirtual 122, 3) := by decide +kernel
theorem dX2_advance_54 : decode cX2_advance 54 = .ok (.invokestatic 130, 3) := by decide +kernel
theorem dX2_advance_57 : decode cX2_advance 57 = .ok (.putfield 19, 3) := by decide +kernel
theorem dX2_advance_60 : decode cX2_advance 60 = .ok (.aload_n 0, 1) := by decide +kernel
theorem dX2_advance_61 : decode cX2_advance 61 = .ok (.aload_n 0, 1) := by decide +kernel
theorem dX2_advance_62 : decode cX2_advance 62 = .ok (.getfield 22, 3) := by decide +kernel
theorem dX2_advance_65 : decode cX2_advance 65 = .ok (.putfield 25, 3) := by decide +kernel
theorem dX2_advance_68 : decode cX2_advance 68 = .ok (.aload_n 0, 1) := by decide +kernel
theorem dX2_advance_69 : decode cX2_advance 69 = .ok (.iconst 0, 1) := by decide +kernel
theorem dX2_advance_70 : decode cX2_advance 70 = .ok (.putfield 28, 3) := by decide +kernel
theorem dX2_advance_73 : decode cX2_advance 73 = .ok (.aload_n 0, 1) := by decide +kernel
theorem dX2_advance_74 : decode cX2_advance 74 = .ok (.getfield 19, 3) := by decide +kernel
theorem dX2_advance_77 : decode cX2_advance 77 = .ok (.iconst 3, 1) := by decide +kernel
theorem dX2_advance_78 : decode cX2_advance 78 = .ok (.if_icmp .eq 11, 3) := by decide +kernel
theorem dX2_advance_81 : decode cX2_advance 81 = .ok (.aload_n 0, 1) := by decide +kernel
theorem dX2_advance_82 : decode cX2_advance 82 = .ok (.getfield 19, 3) := by decide +kernel
theorem dX2_advance_85 : decode cX2_advance 85 = .ok (.iconst 4, 1) := by decide +kernel
theorem dX2_advance_86 : decode cX2_advance 86 = .ok (.if_icmp .ne 14, 3) := by decide +kernel
theorem dX2_advance_89 : decode cX2_advance 89 = .ok (.aload_n 0, 1) := by decide +kernel
theorem dX2_advance_90 : decode cX2_advance 90 = .ok (.aload_n 0, 1) := by decide +kernel
theorem dX2_advance_91 : decode cX2_advance 91 = .ok (.getfield 22, 3) := by decide +kernel
theorem dX2_advance_94 : decode cX2_advance 94 = .ok (.iconst 1, 1) := by decide +kernel
theorem dX2_advance_95 : decode cX2_advance 95 = .ok (.iadd, 1) := by decide +kernel
theorem dX2_advance_96 : decode cX2_advance 96 = .ok (.putfield 25, 3) := by decide +kernel
theorem dX2_advance_99 : decode cX2_advance 99 = .ok (.return_, 1) := by decide +kernel
theorem dX2_advance_100 : decode cX2_advance 100 = .ok (.aload_n 0, 1) := by decide +kernel
theorem dX2_advance_101 : decode cX2_advance 101 = .ok (.getfield 25, 3) := by decide +kernel
theorem dX2_advance_104 : decode cX2_advance 104 = .ok (.aload_n 0, 1) := by decide +kernel
theorem dX2_advance_105 : decode cX2_advance 105 = .ok (.getfield 9, 3) := by decide +kernel
theorem dX2_advance_108 : decode cX2_advance 108 = .ok (.if_icmp .ge 71, 3) := by decide +kernel
theorem dX2_advance_111 : decode cX2_advance 111 = .ok (.aload_n 0, 1) := by decide +kernel
theorem dX2_advance_112 : decode cX2_advance 112 = .ok (.aload_n 0, 1) := by decide +kernel
theorem dX2_advance_113 : decode cX2_advance 113 = .ok (.getfield 25, 3) := by decide +kernel
theorem dX2_advance_116 : decode cX2_advance 116 = .ok (.invokevirtual 122, 3) := by decide +kernel
theorem dX2_advance_119 : decode cX2_advance 119 = .ok (.invokestatic 130, 3) := by decide +kernel
theorem dX2_advance_122 : decode cX2_advance 122 = .ok (.aload_n 0, 1) := by decide +kernel
theorem dX2_advance_123 : decode cX2_advance 123 = .ok (.getfield 19, 3) := by decide +kernel
theorem dX2_advance_126 : decode cX2_advance 126 = .ok (.if_icmp .ne 53, 3) := by decide +kernel
theorem dX2_advance_129 : decode cX2_advance 129 = .ok (.aload_n 0, 1) := by decide +kernel
theorem dX2_advance_130 : decode cX2_advance 130 = .ok (.getfield 19, 3) := by decide +kernel
theorem dX2_advance_133 : decode cX2_advance 133 = .ok (.iconst 2, 1) := by decide +kernel
theorem dX2_advance_134 : decode cX2_advance 134 = .ok (.if_icmp .ne 32, 3) := by decide +kernel
theorem dX2_advance_137 : decode cX2_advance 137 = .ok (.aload_n 0, 1) := by decide +kernel
theorem dX2_advance_138 : decode cX2_advance 138 = .ok (.bipush 10, 2) := by decide +kernel
theorem dX2_advance_140 : decode cX2_advance 140 = .ok (.aload_n 0, 1) := by decide +kernel
theorem dX2_advance_141 : decode cX2_advance 141 = .ok (.getfield 28, 3) := by decide +kernel
theorem dX2_advance_144 : decode cX2_advance 144 = .ok (.imul, 1) := by decide +kernel
theorem dX2_advance_145 : decode cX2_advance 145 = .ok (.aload_n 0, 1) := by decide +kernel
theorem dX2_advance_146 : decode cX2_advance 146 = .ok (.aload_n 0, 1) := by decide +kernel
theorem dX2_advance_147 : decode cX2_advance 147 = .ok (.getfield 25, 3) := by decide +kernel
theorem dX2_advance_150 : decode cX2_advance 150 = .ok (.invokevirtual 122, 3) := by decide +kernel
theorem dX2_advance_153 : decode cX2_advance 153 = .ok (.iadd, 1) := by decide +kernel
theorem dX2_advance_154 : decode cX2_advance 154 = .ok (.bipush 48, 2) := by decide +kernel
theorem dX2_advance_156 : decode cX2_advance 156 = .ok (.isub, 1) := by decide +kernel
theorem dX2_advance_157 : decode cX2_advance 157 = .ok (.sipush 1000, 3) := by decide +kernel
theorem dX2_advance_160 : decode cX2_advance 160 = .ok (.invokestatic 133, 3) := by decide +kernel
theorem dX2_advance_163 : decode cX2_advance 163 = .ok (.putfield 28, 3) := by decide +kernel
theorem dX2_advance_166 : decode cX2_advance 166 = .ok (.aload_n 0, 1) := by decide +kernel
theorem dX2_advance_167 : decode cX2_advance 167 = .ok (.dup, 1) := by decide +kernel
theorem dX2_advance_168 : decode cX2_advance 168 = .ok (.getfield 25, 3) := by decide +kernel
theorem dX2_advance_171 : decode cX2_advance 171 = .ok (.iconst 1, 1) := by decide +kernel
theorem dX2_advance_172 : decode cX2_advance 172 = .ok (.iadd, 1) := by decide +kernel
theorem dX2_advance_173 : decode cX2_advance 173 = .ok (.putfield 25, 3) := by decide +kernel
theorem dX2_advance_176 : decode cX2_advance 176 = .ok (.goto (-76), 3) := by decide +kernel
theorem dX2_advance_179 : decode cX2_advance 179 = .ok (.return_, 1) := by decide +kernel
theorem dX2_byteAt_0 : decode cX2_byteAt 0 = .ok (.iload_n 1, 1) := by decide +kernel
theorem dX2_byteAt_1 : decode cX2_byteAt 1 = .ok (.ifCond .lt 26, 3) := by decide +kernel
theorem dX2_byteAt_4 : decode cX2_byteAt 4 = .ok (.iload_n 1, 1) := by decide +kernel
theorem dX2_byteAt_5 : decode cX2_byteAt 5 = .ok (.aload_n 0, 1) := by decide +kernel
theorem dX2_byteAt_6 : decode cX2_byteAt 6 = .ok (.getfield 9, 3) := by decide +kernel
theorem dX2_byteAt_9 : decode cX2_byteAt 9 = .ok (.if_icmp .ge 18, 3) := by decide +kernel
theorem dX2_byteAt_12 : decode cX2_byteAt 12 = .ok (.iload_n 1, 1) := by decide +kernel
theorem dX2_byteAt_13 : decode cX2_byteAt 13 = .ok (.bipush 120, 2) := by decide +kernel
theorem dX2_byteAt_15 : decode cX2_byteAt 15 = .ok (.if_icmp .ge 12, 3) := by decide +kernel
theorem dX2_byteAt_18 : decode cX2_byteAt 18 = .ok (.aload_n 0, 1) := by decide +kernel
theorem dX2_byteAt_19 : decode cX2_byteAt 19 = .ok (.getfield 15, 3) := by decide +kernel
theorem dX2_byteAt_22 : decode cX2_byteAt 22 = .ok (.iload_n 1, 1) := by decide +kernel
theorem dX2_byteAt_23 : decode cX2_byteAt 23 = .ok (.iaload, 1) := by decide +kernel
theorem dX2_byteAt_24 : decode cX2_byteAt 24 = .ok (.goto 4, 3) := by decide +kernel
theorem dX2_byteAt_27 : decode cX2_byteAt 27 = .ok (.iconst (-1), 1) := by decide +kernel
theorem dX2_byteAt_28 : decode cX2_byteAt 28 = .ok (.ireturn, 1) := by decide +kernel
theorem dX2_tokenOf_0 : decode cX2_tokenOf 0 = .ok (.iload_n 0, 1) := by decide +kernel
theorem dX2_tokenOf_1 : decode cX2_tokenOf 1 = .ok (.ifCond .ge 5, 3) := by decide +kernel
theorem dX2_tokenOf_4 : decode cX2_tokenOf 4 = .ok (.iconst 0, 1) := by decide +kernel
theorem dX2_tokenOf_5 : decode cX2_tokenOf 5 = .ok (.ireturn, 1) := by decide +kernel
theorem dX2_tokenOf_6 : decode cX2_tokenOf 6 = .ok (.iload_n 0, 1) := by decide +kernel
theorem dX2_tokenOf_7 : decode cX2_tokenOf 7 = .ok (.bipush 97, 2) := by decide +kernel
theorem dX2_tokenOf_9 : decode cX2_tokenOf 9 = .ok (.if_icmp .lt 11, 3) := by decide +kernel
theorem dX2_tokenOf_12 : decode cX2_tokenOf 12 = .ok (.iload_n 0, 1) := by decide +kernel
theorem dX2_tokenOf_13 : decode cX2_tokenOf 13 = .ok (.bipush 122, 2) := by decide +kernel
theorem dX2_tokenOf_15 : decode cX2_tokenOf 15 = .ok (.if_icmp .gt 5, 3) := by decide +kernel
theorem dX2_tokenOf_18 : decode cX2_tokenOf 18 = .ok (.iconst 1, 1) := by decide +kernel
theorem dX2_tokenOf_19 : decode cX2_tokenOf 19 = .ok (.ireturn, 1) := by decide +kernel
theorem dX2_tokenOf_20 : decode cX2_tokenOf 20 = .ok (.iload_n 0, 1) := by decide +kernel
theorem dX2_tokenOf_21 : decode cX2_tokenOf 21 = .ok (.bipush 48, 2) := by decide +kernel
theorem dX2_tokenOf_23 : decode cX2_tokenOf 23 = .ok (.if_icmp .lt 11, 3) := by decide +kernel
theorem dX2_tokenOf_26 : decode cX2_tokenOf 26 = .ok (.iload_n 0, 1) := by decide +kernel
theorem dX2_tokenOf_27 : decode cX2_tokenOf 27 = .ok (.bipush 57, 2) := by decide +kernel
theorem dX2_tokenOf_29 : decode cX2_tokenOf 29 = .ok (.if_icmp .gt 5, 3) := by decide +kernel
theorem dX2_tokenOf_32 : decode cX2_tokenOf 32 = .ok (.iconst 2, 1) := by decide +kernel
theorem dX2_tokenOf_33 : decode cX2_tokenOf 33 = .ok (.ireturn, 1) := by decide +kernel
theorem dX2_tokenOf_34 : decode cX2_tokenOf 34 = .ok (.iload_n 0, 1) := by decide +kernel
theorem dX2_tokenOf_35 : decode cX2_tokenOf 35 = .ok (.bipush 59, 2) := by decide +kernel
theorem dX2_tokenOf_37 : decode cX2_tokenOf 37 = .ok (.if_icmp .ne 7, 3) := by decide +kernel
theorem dX2_tokenOf_40 : decode cX2_tokenOf 40 = .ok (.iconst 3, 1) := by decide +kernel
theorem dX2_tokenOf_41 : decode cX2_tokenOf 41 = .ok (.goto 4, 3) := by decide +kernel
theorem dX2_tokenOf_44 : decode cX2_tokenOf 44 = .ok (.iconst 4, 1) := by decide +kernel
theorem dX2_tokenOf_45 : decode cX2_tokenOf 45 = .ok (.ireturn, 1) := by decide +kernel
theorem dJ6_bitCount_0f7a4_0 : decode cJ6_bitCount_0f7a4 0 = .ok (.iload_n 0, 1) := by decide +kernel
theorem dJ6_bitCount_0f7a4_1 : decode cJ6_bitCount_0f7a4 1 = .ok (.iload_n 0, 1) := by decide +kernel
theorem dJ6_bitCount_0f7a4_2 : decode cJ6_bitCount_0f7a4 2 = .ok (.iconst 1, 1) := by decide +kernel
theorem dJ6_bitCount_0f7a4_3 : decode cJ6_bitCount_0f7a4 3 = .ok (.iushr, 1) := by decide +kernel
theorem dJ6_bitCount_0f7a4_4 : decode cJ6_bitCount_0f7a4 4 = .ok (.ldc_w 265, 3) := by decide +kernel
theorem dJ6_bitCount_0f7a4_7 : decode cJ6_bitCount_0f7a4 7 = .ok (.iand, 1) := by decide +kernel
theorem dJ6_bitCount_0f7a4_8 : decode cJ6_bitCount_0f7a4 8 = .ok (.isub, 1) := by decide +kernel
theorem dJ6_bitCount_0f7a4_9 : decode cJ6_bitCount_0f7a4 9 = .ok (.istore_n 0, 1) := by decide +kernel
theorem dJ6_bitCount_0f7a4_10 : decode cJ6_bitCount_0f7a4 10 = .ok (.iload_n 0, 1) := by decide +kernel
theorem dJ6_bitCount_0f7a4_11 : decode cJ6_bitCount_0f7a4 11 = .ok (.ldc_w 266, 3) := by decide +kernel
theorem dJ6_bitCount_0f7a4_14 : decode cJ6_bitCount_0f7a4 14 = .ok (.iand, 1) := by decide +kernel
theorem dJ6_bitCount_0f7a4_15 : decode cJ6_bitCount_0f7a4 15 = .ok (.iload_n 0, 1) := by decide +kernel
theorem dJ6_bitCount_0f7a4_16 : decode cJ6_bitCount_0f7a4 16 = .ok (.iconst 2, 1) := by decide +kernel
theorem dJ6_bitCount_0f7a4_17 : decode cJ6_bitCount_0f7a4 17 = .ok (.iushr, 1) := by decide +kernel
theorem dJ6_bitCount_0f7a4_18 : decode cJ6_bitCount_0f7a4 18 = .ok (.ldc_w 266, 3) := by decide +kernel
theorem dJ6_bitCount_0f7a4_21 : decode cJ6_bitCount_0f7a4 21 = .ok (.iand, 1) := by decide +kernel
theorem dJ6_bitCount_0f7a4_22 : decode cJ6_bitCount_0f7a4 22 = .ok (.iadd, 1) := by decide +kernel
theorem dJ6_bitCount_0f7a4_23 : decode cJ6_bitCount_0f7a4 23 = .ok (.istore_n 0, 1) := by decide +kernel
theorem dJ6_bitCount_0f7a4_24 : decode cJ6_bitCount_0f7a4 24 = .ok (.iload_n 0, 1) := by decide +kernel
theorem dJ6_bitCount_0f7a4_25 : decode cJ6_bitCount_0f7a4 25 = .ok (.iload_n 0, 1) := by decide +kernel
theorem dJ6_bitCount_0f7a4_26 : decode cJ6_bitCount_0f7a4 26 = .ok (.iconst 4, 1) := by decide +kernel
theorem dJ6_bitCount_0f7a4_27 : decode cJ6_bitCount_0f7a4 27 = .ok (.iushr, 1) := by decide +kernel
theorem dJ6_bitCount_0f7a4_28 : decode cJ6_bitCount_0f7a4 28 = .ok (.iadd, 1) := by decide +kernel
theorem dJ6_bitCount_0f7a4_29 : decode cJ6_bitCount_0f7a4 29 = .ok (.ldc_w 267, 3) := by decide +kernel
theorem dJ6_bitCount_0f7a4_32 : decode cJ6_bitCount_0f7a4 32 = .ok (.iand, 1) := by decide +kernel
theorem dJ6_bitCount_0f7a4_33 : decode cJ6_bitCount_0f7a4 33 = .ok (.istore_n 0, 1) := by decide +kernel
theorem dJ6_bitCount_0f7a4_34 : decode cJ6_bitCount_0f7a4 34 = .ok (.iload_n 0, 1) := by decide +kernel
theorem dJ6_bitCount_0f7a4_35 : decode cJ6_bitCount_0f7a4 35 = .ok (.iload_n 0, 1) := by decide +kernel
theorem dJ6_bitCount_0f7a4_36 : decode cJ6_bitCount_0f7a4 36 = .ok (.bipush 8, 2) := by decide +kernel
theorem dJ6_bitCount_0f7a4_38 : decode cJ6_bitCount_0f7a4 38 = .ok (.iushr, 1) := by decide +kernel
theorem dJ6_bitCount_0f7a4_39 : decode cJ6_bitCount_0f7a4 39 = .ok (.iadd, 1) := by decide +kernel
theorem dJ6_bitCount_0f7a4_40 : decode cJ6_bitCount_0f7a4 40 = .ok (.istore_n 0, 1) := by decide +kernel
theorem dJ6_bitCount_0f7a4_41 : decode cJ6_bitCount_0f7a4 41 = .ok (.iload_n 0, 1) := by decide +kernel
theorem dJ6_bitCount_0f7a4_42 : decode cJ6_bitCount_0f7a4 42 = .ok (.iload_n 0, 1) := by decide +kernel
theorem dJ6_bitCount_0f7a4_43 : decode cJ6_bitCount_0f7a4 43 = .ok (.bipush 16, 2) := by decide +kernel
theorem dJ6_bitCount_0f7a4_45 : decode cJ6_bitCount_0f7a4 45 = .ok (.iushr, 1) := by decide +kernel
theorem dJ6_bitCount_0f7a4_46 : decode cJ6_bitCount_0f7a4 46 = .ok (.iadd, 1) := by decide +kernel
theorem dJ6_bitCount_0f7a4_47 : decode cJ6_bitCount_0f7a4 47 = .ok (.istore_n 0, 1) := by decide +kernel
theorem dJ6_bitCount_0f7a4_48 : decode cJ6_bitCount_0f7a4 48 = .ok (.iload_n 0, 1) := by decide +kernel
theorem dJ6_bitCount_0f7a4_49 : decode cJ6_bitCount_0f7a4 49 = .ok (.bipush 63, 2) := by decide +kernel
theorem dJ6_bitCount_0f7a4_51 : decode cJ6_bitCount_0f7a4 51 = .ok (.iand, 1) := by decide +kernel
theorem dJ6_bitCount_0f7a4_52 : decode cJ6_bitCount_0f7a4 52 = .ok (.ireturn, 1) := by decide +kernel
theorem dJ9_abs_0f7a4_0 : decode cJ9_abs_0f7a4 0 = .ok (.iload_n 0, 1) := by decide +kernel
theorem dJ9_abs_0f7a4_1 : decode cJ9_abs_0f7a4 1 = .ok (.ifCond .ge 8, 3) := by decide +kernel
theorem dJ9_abs_0f7a4_4 : decode cJ9_abs_0f7a4 4 = .ok (.iload_n 0, 1) := by decide +kernel
theorem dJ9_abs_0f7a4_5 : decode cJ9_abs_0f7a4 5 = .ok (.ineg, 1) := by decide +kernel
theorem dJ9_abs_0f7a4_6 : decode cJ9_abs_0f7a4 6 = .ok (.goto 4, 3) := by decide +kernel
theorem dJ9_abs_0f7a4_9 : decode cJ9_abs_0f7a4 9 = .ok (.iload_n 0, 1) := by decide +kernel
theorem dJ9_abs_0f7a4_10 : decode cJ9_abs_0f7a4 10 = .ok (.ireturn, 1) := by decide +kernel
theorem dJ9_max_7cf53_0 : decode cJ9_max_7cf53 0 = .ok (.iload_n 0, 1) := by decide +kernel
theorem dJ9_max_7cf53_1 : decode cJ9_max_7cf53 1 = .ok (.iload_n 1, 1) := by decide +kernel
theorem dJ9_max_7cf53_2 : decode cJ9_max_7cf53 2 = .ok (.if_icmp .lt 7, 3) := by decide +kernel
theorem dJ9_max_7cf53_5 : decode cJ9_max_7cf53 5 = .ok (.iload_n 0, 1) := by decide +kernel
theorem dJ9_max_7cf53_6 : decode cJ9_max_7cf53 6 = .ok (.goto 4, 3) := by decide +kernel
theorem dJ9_max_7cf53_9 : decode cJ9_max_7cf53 9 = .ok (.iload_n 1, 1) := by decide +kernel
theorem dJ9_max_7cf53_10 : decode cJ9_max_7cf53 10 = .ok (.ireturn, 1) := by decide +kernel
theorem dJ9_min_7cf53_0 : decode cJ9_min_7cf53 0 = .ok (.iload_n 0, 1) := by decide +kernel
theorem dJ9_min_7cf53_1 : decode cJ9_min_7cf53 1 = .ok (.iload_n 1, 1) := by decide +kernel
theorem dJ9_min_7cf53_2 : decode cJ9_min_7cf53 2 = .ok (.if_icmp .gt 7, 3) := by decide +kernel
theorem dJ9_min_7cf53_5 : decode cJ9_min_7cf53 5 = .ok (.iload_n 0, 1) := by decide +kernel
theorem dJ9_min_7cf53_6 : decode cJ9_min_7cf53 6 = .ok (.goto 4, 3) := by decide +kernel
theorem dJ9_min_7cf53_9 : decode cJ9_min_7cf53 9 = .ok (.iload_n 1, 1) := by decide +kernel
theorem dJ9_min_7cf53_10 : decode cJ9_min_7cf53 10 = .ok (.ireturn, 1) := by decide +kernel
theorem dJ0_length_8abf5_0 : decode cJ0_length_8abf5 0 = .ok (.aload_n 0, 1) := by decide +kernel
theorem dJ0_length_8abf5_1 : decode cJ0_length_8abf5 1 = .ok (.getfield 9, 3) := by decide +kernel
theorem dJ0_length_8abf5_4 : decode cJ0_length_8abf5 4 = .ok (.arraylength, 1) := by decide +kernel
theorem dJ0_length_8abf5_5 : decode cJ0_length_8abf5 5 = .ok (.aload_n 0, 1) := by decide +kernel
theorem dJ0_length_8abf5_6 : decode cJ0_length_8abf5 6 = .ok (.invokevirtual 335, 3) := by decide +kernel
theorem dJ0_length_8abf5_9 : decode cJ0_length_8abf5 9 = .ok (.ishr, 1) := by decide +kernel
theorem dJ0_length_8abf5_10 : decode cJ0_length_8abf5 10 = .ok (.ireturn, 1) := by decide +kernel
theorem dJ0_charAt_5068e_0 : decode cJ0_charAt_5068e 0 = .ok (.aload_n 0, 1) := by decide +kernel
theorem dJ0_charAt_5068e_1 : decode cJ0_charAt_5068e 1 = .ok (.invokevirtual 492, 3) := by decide +kernel
theorem dJ0_charAt_5068e_4 : decode cJ0_charAt_5068e 4 = .ok (.ifCond .eq 12, 3) := by decide +kernel
theorem dJ0_charAt_5068e_7 : decode cJ0_charAt_5068e 7 = .ok (.aload_n 0, 1) := by decide +kernel
theorem dJ0_charAt_5068e_8 : decode cJ0_charAt_5068e 8 = .ok (.getfield 9, 3) := by decide +kernel
theorem dJ0_charAt_5068e_11 : decode cJ0_charAt_5068e 11 = .ok (.iload_n 1, 1) := by decide +kernel
theorem dJ0_charAt_5068e_12 : decode cJ0_charAt_5068e 12 = .ok (.invokestatic 495, 3) := by decide +kernel
theorem dJ0_charAt_5068e_15 : decode cJ0_charAt_5068e 15 = .ok (.ireturn, 1) := by decide +kernel
theorem dJ0_charAt_5068e_16 : decode cJ0_charAt_5068e 16 = .ok (.aload_n 0, 1) := by decide +kernel
theorem dJ0_charAt_5068e_17 : decode cJ0_charAt_5068e 17 = .ok (.getfield 9, 3) := by decide +kernel
theorem dJ0_charAt_5068e_20 : decode cJ0_charAt_5068e 20 = .ok (.iload_n 1, 1) := by decide +kernel
theorem dJ0_charAt_5068e_21 : decode cJ0_charAt_5068e 21 = .ok (.invokestatic 498, 3) := by decide +kernel
theorem dJ0_charAt_5068e_24 : decode cJ0_charAt_5068e 24 = .ok (.ireturn, 1) := by decide +kernel
theorem dJ0_coder_7d493_0 : decode cJ0_coder_7d493 0 = .ok (.getstatic 38, 3) := by decide +kernel
theorem dJ0_coder_7d493_3 : decode cJ0_coder_7d493 3 = .ok (.ifCond .eq 10, 3) := by decide +kernel
theorem dJ0_coder_7d493_6 : decode cJ0_coder_7d493 6 = .ok (.aload_n 0, 1) := by decide +kernel
theorem dJ0_coder_7d493_7 : decode cJ0_coder_7d493 7 = .ok (.getfield 15, 3) := by decide +kernel
theorem dJ0_coder_7d493_10 : decode cJ0_coder_7d493 10 = .ok (.goto 4, 3) := by decide +kernel
theorem dJ0_coder_7d493_13 : decode cJ0_coder_7d493 13 = .ok (.iconst 1, 1) := by decide +kernel
theorem dJ0_coder_7d493_14 : decode cJ0_coder_7d493 14 = .ok (.ireturn, 1) := by decide +kernel
theorem dJ0_isLatin1_aae02_0 : decode cJ0_isLatin1_aae02 0 = .ok (.getstatic 38, 3) := by decide +kernel
theorem dJ0_isLatin1_aae02_3 : decode cJ0_isLatin1_aae02 3 = .ok (.ifCond .eq 14, 3) := by decide +kernel
theorem dJ0_isLatin1_aae02_6 : decode cJ0_isLatin1_aae02 6 = .ok (.aload_n 0, 1) := by decide +kernel
theorem dJ0_isLatin1_aae02_7 : decode cJ0_isLatin1_aae02 7 = .ok (.getfield 15, 3) := by decide +kernel
theorem dJ0_isLatin1_aae02_10 : decode cJ0_isLatin1_aae02 10 = .ok (.ifCond .ne 7, 3) := by decide +kernel
theorem dJ0_isLatin1_aae02_13 : decode cJ0_isLatin1_aae02 13 = .ok (.iconst 1, 1) := by decide +kernel
theorem dJ0_isLatin1_aae02_14 : decode cJ0_isLatin1_aae02 14 = .ok (.goto 4, 3) := by decide +kernel
theorem dJ0_isLatin1_aae02_17 : decode cJ0_isLatin1_aae02 17 = .ok (.iconst 0, 1) := by decide +kernel
theorem dJ0_isLatin1_aae02_18 : decode cJ0_isLatin1_aae02 18 = .ok (.ireturn, 1) := by decide +kernel
theorem dJ0_checkIndex_df160_0 : decode cJ0_checkIndex_df160 0 = .ok (.iload_n 0, 1) := by decide +kernel
theorem dJ0_checkIndex_df160_1 : decode cJ0_checkIndex_df160 1 = .ok (.iload_n 1, 1) := by decide +kernel
theorem dJ0_checkIndex_df160_2 : decode cJ0_checkIndex_df160 2 = .ok (.getstatic 1053, 3) := by decide +kernel
theorem dJ0_checkIndex_df160_5 : decode cJ0_checkIndex_df160 5 = .ok (.invokestatic 1059, 3) := by decide +kernel
theorem dJ0_checkIndex_df160_8 : decode cJ0_checkIndex_df160 8 = .ok (.pop, 1) := by decide +kernel
theorem dJ0_checkIndex_df160_9 : decode cJ0_checkIndex_df160 9 = .ok (.return_, 1) := by decide +kernel
theorem dJ1_charAt_3b067_0 : decode cJ1_charAt_3b067 0 = .ok (.iload_n 1, 1) := by decide +kernel
theorem dJ1_charAt_3b067_1 : decode cJ1_charAt_3b067 1 = .ok (.aload_n 0, 1) := by decide +kernel
theorem dJ1_charAt_3b067_2 : decode cJ1_charAt_3b067 2 = .ok (.arraylength, 1) := by decide +kernel
theorem dJ1_charAt_3b067_3 : decode cJ1_charAt_3b067 3 = .ok (.invokestatic 9, 3) := by decide +kernel
theorem dJ1_charAt_3b067_6 : decode cJ1_charAt_3b067 6 = .ok (.aload_n 0, 1) := by decide +kernel
theorem dJ1_charAt_3b067_7 : decode cJ1_charAt_3b067 7 = .ok (.iload_n 1, 1) := by decide +kernel
theorem dJ1_charAt_3b067_8 : decode cJ1_charAt_3b067 8 = .ok (.baload, 1) := by decide +kernel
theorem dJ1_charAt_3b067_9 : decode cJ1_charAt_3b067 9 = .ok (.sipush 255, 3) := by decide +kernel
theorem dJ1_charAt_3b067_12 : decode cJ1_charAt_3b067 12 = .ok (.iand, 1) := by decide +kernel
theorem dJ1_charAt_3b067_13 : decode cJ1_charAt_3b067 13 = .ok (.i2c, 1) := by decide +kernel
theorem dJ1_charAt_3b067_14 : decode cJ1_charAt_3b067 14 = .ok (.ireturn, 1) := by decide +kernel
theorem dJ2_getChar_3b067_0 : decode cJ2_getChar_3b067 0 = .ok (.getstatic 44, 3) := by decide +kernel
theorem dJ2_getChar_3b067_3 : decode cJ2_getChar_3b067 3 = .ok (.ifCond .ne 25, 3) := by decide +kernel
theorem dJ2_getChar_3b067_6 : decode cJ2_getChar_3b067 6 = .ok (.iload_n 1, 1) := by decide +kernel
theorem dJ2_getChar_3b067_7 : decode cJ2_getChar_3b067 7 = .ok (.ifCond .lt 11, 3) := by decide +kernel
theorem dJ2_getChar_3b067_10 : decode cJ2_getChar_3b067 10 = .ok (.iload_n 1, 1) := by decide +kernel
theorem dJ2_getChar_3b067_11 : decode cJ2_getChar_3b067 11 = .ok (.aload_n 0, 1) := by decide +kernel
theorem dJ2_getChar_3b067_12 : decode cJ2_getChar_3b067 12 = .ok (.invokestatic 48, 3) := by decide +kernel
theorem dJ2_getChar_3b067_15 : decode cJ2_getChar_3b067 15 = .ok (.if_icmp .lt 13, 3) := by decide +kernel
theorem dJ2_getChar_3b067_18 : decode cJ2_getChar_3b067 18 = .ok (.new 52, 3) := by decide +kernel
theorem dJ2_getChar_3b067_21 : decode cJ2_getChar_3b067 21 = .ok (.dup, 1) := by decide +kernel
theorem dJ2_getChar_3b067_22 : decode cJ2_getChar_3b067 22 = .ok (.ldc 54, 2) := by decide +kernel
theorem dJ2_getChar_3b067_24 : decode cJ2_getChar_3b067 24 = .ok (.invokespecial 56, 3) := by decide +kernel
theorem dJ2_getChar_3b067_27 : decode cJ2_getChar_3b067 27 = .ok (.athrow, 1) := by decide +kernel
theorem dJ2_getChar_3b067_28 : decode cJ2_getChar_3b067 28 = .ok (.iload_n 1, 1) := by decide +kernel
theorem dJ2_getChar_3b067_29 : decode cJ2_getChar_3b067 29 = .ok (.iconst 1, 1) := by decide +kernel
theorem dJ2_getChar_3b067_30 : decode cJ2_getChar_3b067 30 = .ok (.ishl, 1) := by decide +kernel
theorem dJ2_getChar_3b067_31 : decode cJ2_getChar_3b067 31 = .ok (.istore_n 1, 1) := by decide +kernel
theorem dJ2_getChar_3b067_32 : decode cJ2_getChar_3b067 32 = .ok (.aload_n 0, 1) := by decide +kernel
theorem dJ2_getChar_3b067_33 : decode cJ2_getChar_3b067 33 = .ok (.iload_n 1, 1) := by decide +kernel
theorem dJ2_getChar_3b067_34 : decode cJ2_getChar_3b067 34 = .ok (.iinc 1 1, 3) := by decide +kernel
theorem dJ2_getChar_3b067_37 : decode cJ2_getChar_3b067 37 = .ok (.baload, 1) := by decide +kernel
theorem dJ2_getChar_3b067_38 : decode cJ2_getChar_3b067 38 = .ok (.sipush 255, 3) := by decide +kernel
theorem dJ2_getChar_3b067_41 : decode cJ2_getChar_3b067 41 = .ok (.iand, 1) := by decide +kernel
theorem dJ2_getChar_3b067_42 : decode cJ2_getChar_3b067 42 = .ok (.getstatic 59, 3) := by decide +kernel
theorem dJ2_getChar_3b067_45 : decode cJ2_getChar_3b067 45 = .ok (.ishl, 1) := by decide +kernel
theorem dJ2_getChar_3b067_46 : decode cJ2_getChar_3b067 46 = .ok (.aload_n 0, 1) := by decide +kernel
theorem dJ2_getChar_3b067_47 : decode cJ2_getChar_3b067 47 = .ok (.iload_n 1, 1) := by decide +kernel
theorem dJ2_getChar_3b067_48 : decode cJ2_getChar_3b067 48 = .ok (.baload, 1) := by decide +kernel
theorem dJ2_getChar_3b067_49 : decode cJ2_getChar_3b067 49 = .ok (.sipush 255, 3) := by decide +kernel
theorem dJ2_getChar_3b067_52 : decode cJ2_getChar_3b067 52 = .ok (.iand, 1) := by decide +kernel
theorem dJ2_getChar_3b067_53 : decode cJ2_getChar_3b067 53 = .ok (.getstatic 63, 3) := by decide +kernel
theorem dJ2_getChar_3b067_56 : decode cJ2_getChar_3b067 56 = .ok (.ishl, 1) := by decide +kernel
theorem dJ2_getChar_3b067_57 : decode cJ2_getChar_3b067 57 = .ok (.ior, 1) := by decide +kernel
theorem dJ2_getChar_3b067_58 : decode cJ2_getChar_3b067 58 = .ok (.i2c, 1) := by decide +kernel
theorem dJ2_getChar_3b067_59 : decode cJ2_getChar_3b067 59 = .ok (.ireturn, 1) := by decide +kernel
theorem dJ2_length_9d52b_0 : decode cJ2_length_9d52b 0 = .ok (.aload_n 0, 1) := by decide +kernel
theorem dJ2_length_9d52b_1 : decode cJ2_length_9d52b 1 = .ok (.arraylength, 1) := by decide +kernel
theorem dJ2_length_9d52b_2 : decode cJ2_length_9d52b 2 = .ok (.iconst 1, 1) := by decide +kernel
theorem dJ2_length_9d52b_3 : decode cJ2_length_9d52b 3 = .ok (.ishr, 1) := by decide +kernel
theorem dJ2_length_9d52b_4 : decode cJ2_length_9d52b 4 = .ok (.ireturn, 1) := by decide +kernel
theorem dJ2_charAt_3b067_0 : decode cJ2_charAt_3b067 0 = .ok (.iload_n 1, 1) := by decide +kernel
theorem dJ2_charAt_3b067_1 : decode cJ2_charAt_3b067 1 = .ok (.aload_n 0, 1) := by decide +kernel
theorem dJ2_charAt_3b067_2 : decode cJ2_charAt_3b067 2 = .ok (.invokestatic 67, 3) := by decide +kernel
theorem dJ2_charAt_3b067_5 : decode cJ2_charAt_3b067 5 = .ok (.aload_n 0, 1) := by decide +kernel
theorem dJ2_charAt_3b067_6 : decode cJ2_charAt_3b067 6 = .ok (.iload_n 1, 1) := by decide +kernel
theorem dJ2_charAt_3b067_7 : decode cJ2_charAt_3b067 7 = .ok (.invokestatic 71, 3) := by decide +kernel
theorem dJ2_charAt_3b067_10 : decode cJ2_charAt_3b067 10 = .ok (.ireturn, 1) := by decide +kernel
theorem dJ2_checkIndex_2214a_0 : decode cJ2_checkIndex_2214a 0 = .ok (.iload_n 0, 1) := by decide +kernel
theorem dJ2_checkIndex_2214a_1 : decode cJ2_checkIndex_2214a 1 = .ok (.aload_n 1, 1) := by decide +kernel
theorem dJ2_checkIndex_2214a_2 : decode cJ2_checkIndex_2214a 2 = .ok (.invokestatic 48, 3) := by decide +kernel
theorem dJ2_checkIndex_2214a_5 : decode cJ2_checkIndex_2214a 5 = .ok (.invokestatic 414, 3) := by decide +kernel
theorem dJ2_checkIndex_2214a_8 : decode cJ2_checkIndex_2214a 8 = .ok (.return_, 1) := by decide +kernel
theorem dJ3_checkIndex_8e157_0 : decode cJ3_checkIndex_8e157 0 = .ok (.iload_n 0, 1) := by decide +kernel
theorem dJ3_checkIndex_8e157_1 : decode cJ3_checkIndex_8e157 1 = .ok (.ifCond .lt 8, 3) := by decide +kernel
theorem dJ3_checkIndex_8e157_4 : decode cJ3_checkIndex_8e157 4 = .ok (.iload_n 0, 1) := by decide +kernel
theorem dJ3_checkIndex_8e157_5 : decode cJ3_checkIndex_8e157 5 = .ok (.iload_n 1, 1) := by decide +kernel
theorem dJ3_checkIndex_8e157_6 : decode cJ3_checkIndex_8e157 6 = .ok (.if_icmp .lt 10, 3) := by decide +kernel
theorem dJ3_checkIndex_8e157_9 : decode cJ3_checkIndex_8e157 9 = .ok (.aload_n 2, 1) := by decide +kernel
theorem dJ3_checkIndex_8e157_10 : decode cJ3_checkIndex_8e157 10 = .ok (.iload_n 0, 1) := by decide +kernel
theorem dJ3_checkIndex_8e157_11 : decode cJ3_checkIndex_8e157 11 = .ok (.iload_n 1, 1) := by decide +kernel
theorem dJ3_checkIndex_8e157_12 : decode cJ3_checkIndex_8e157 12 = .ok (.invokestatic 95, 3) := by decide +kernel
theorem dJ3_checkIndex_8e157_15 : decode cJ3_checkIndex_8e157 15 = .ok (.athrow, 1) := by decide +kernel
theorem dJ3_checkIndex_8e157_16 : decode cJ3_checkIndex_8e157 16 = .ok (.iload_n 0, 1) := by decide +kernel
theorem dJ3_checkIndex_8e157_17 : decode cJ3_checkIndex_8e157 17 = .ok (.ireturn, 1) := by decide +kernel
end
section
theorem dX3_init_0 : decode cX3_init 0 = .ok (.aload_n 0, 1) := by decide +kernel
theorem dX3_init_1 : decode cX3_init 1 = .ok (.invokespecial 1, 3) := by decide +kernel
theorem dX3_init_4 : decode cX3_init 4 = .ok (.aload_n 0, 1) := by decide +kernel
theorem dX3_init_5 : decode cX3_init 5 = .ok (.new 7, 3) := by decide +kernel
theorem dX3_init_8 : decode cX3_init 8 = .ok (.dup, 1) := by decide +kernel
theorem dX3_init_9 : decode cX3_init 9 = .ok (.invokespecial 9, 3) := by decide +kernel
theorem dX3_init_12 : decode cX3_init 12 = .ok (.putfield 10, 3) := by decide +kernel
theorem dX3_init_15 : decode cX3_init 15 = .ok (.aload_n 0, 1) := by decide +kernel
theorem dX3_init_16 : decode cX3_init 16 = .ok (.new 7, 3) := by decide +kernel
theorem dX3_init_19 : decode cX3_init 19 = .ok (.dup, 1) := by decide +kernel
theorem dX3_init_20 : decode cX3_init 20 = .ok (.invokespecial 9, 3) := by decide +kernel
theorem dX3_init_23 : decode cX3_init 23 = .ok (.putfield 16, 3) := by decide +kernel
theorem dX3_init_26 : decode cX3_init 26 = .ok (.aload_n 0, 1) := by decide +kernel
theorem dX3_init_27 : decode cX3_init 27 = .ok (.new 7, 3) := by decide +kernel
theorem dX3_init_30 : decode cX3_init 30 = .ok (.dup, 1) := by decide +kernel
theorem dX3_init_31 : decode cX3_init 31 = .ok (.invokespecial 9, 3) := by decide +kernel
theorem dX3_init_34 : decode cX3_init 34 = .ok (.putfield 19, 3) := by decide +kernel
theorem dX3_init_37 : decode cX3_init 37 = .ok (.aload_n 0, 1) := by decide +kernel
theorem dX3_init_38 : decode cX3_init 38 = .ok (.iconst 0, 1) := by decide +kernel
theorem dX3_init_39 : decode cX3_init 39 = .ok (.putfield 22, 3) := by decide +kernel
theorem dX3_init_42 : decode cX3_init 42 = .ok (.aload_n 0, 1) := by decide +kernel
theorem dX3_init_43 : decode cX3_init 43 = .ok (.new 26, 3) := by decide +kernel
theorem dX3_init_46 : decode cX3_init 46 = .ok (.dup, 1) := by decide +kernel
theorem dX3_init_47 : decode cX3_init 47 = .ok (.invokespecial 28, 3) := by decide +kernel
theorem dX3_init_50 : decode cX3_init 50 = .ok (.putfield 29, 3) := by decide +kernel
theorem dX3_init_53 : decode cX3_init 53 = .ok (.aload_n 0, 1) := by decide +kernel
theorem dX3_init_54 : decode cX3_init 54 = .ok (.iconst 4, 1) := by decide +kernel
theorem dX3_init_55 : decode cX3_init 55 = .ok (.anewarray 33, 3) := by decide +kernel
theorem dX3_init_58 : decode cX3_init 58 = .ok (.putfield 35, 3) := by decide +kernel
theorem dX3_init_61 : decode cX3_init 61 = .ok (.iconst 0, 1) := by decide +kernel
theorem dX3_init_62 : decode cX3_init 62 = .ok (.istore_n 1, 1) := by decide +kernel
theorem dX3_init_63 : decode cX3_init 63 = .ok (.iload_n 1, 1) := by decide +kernel
theorem dX3_init_64 : decode cX3_init 64 = .ok (.iconst 4, 1) := by decide +kernel
theorem dX3_init_65 : decode cX3_init 65 = .ok (.if_icmp .ge 22, 3) := by decide +kernel
theorem dX3_init_68 : decode cX3_init 68 = .ok (.aload_n 0, 1) := by decide +kernel
theorem dX3_init_69 : decode cX3_init 69 = .ok (.getfield 35, 3) := by decide +kernel
theorem dX3_init_72 : decode cX3_init 72 = .ok (.iload_n 1, 1) := by decide +kernel
theorem dX3_init_73 : decode cX3_init 73 = .ok (.new 33, 3) := by decide +kernel
theorem dX3_init_76 : decode cX3_init 76 = .ok (.dup, 1) := by decide +kernel
theorem dX3_init_77 : decode cX3_init 77 = .ok (.invokespecial 39, 3) := by decide +kernel
theorem dX3_init_80 : decode cX3_init 80 = .ok (.aastore, 1) := by decide +kernel
theorem dX3_init_81 : decode cX3_init 81 = .ok (.iinc 1 1, 3) := by decide +kernel
theorem dX3_init_84 : decode cX3_init 84 = .ok (.goto (-21), 3) := by decide +kernel
theorem dX3_init_87 : decode cX3_init 87 = .ok (.aload_n 0, 1) := by decide +kernel
theorem dX3_init_88 : decode cX3_init 88 = .ok (.bipush 7, 2) := by decide +kernel
theorem dX3_init_90 : decode cX3_init 90 = .ok (.newarray .int, 2) := by decide +kernel
theorem dX3_init_92 : decode cX3_init 92 = .ok (.putfield 40, 3) := by decide +kernel
theorem dX3_init_95 : decode cX3_init 95 = .ok (.aload_n 0, 1) := by decide +kernel
theorem dX3_init_96 : decode cX3_init 96 = .ok (.bipush 8, 2) := by decide +kernel
theorem dX3_init_98 : decode cX3_init 98 = .ok (.newarray .int, 2) := by decide +kernel
theorem dX3_init_100 : decode cX3_init 100 = .ok (.putfield 44, 3) := by decide +kernel
theorem dX3_init_103 : decode cX3_init 103 = .ok (.return_, 1) := by decide +kernel
theorem dX3_tacky_0 : decode cX3_tacky 0 = .ok (.iload_n 1, 1) := by decide +kernel
theorem dX3_tacky_1 : decode cX3_tacky 1 = .ok (.iconst 0, 1) := by decide +kernel
theorem dX3_tacky_2 : decode cX3_tacky 2 = .ok (.bipush 8, 2) := by decide +kernel
theorem dX3_tacky_4 : decode cX3_tacky 4 = .ok (.invokestatic 47, 3) := by decide +kernel
theorem dX3_tacky_7 : decode cX3_tacky 7 = .ok (.ifCond .eq 10, 3) := by decide +kernel
theorem dX3_tacky_10 : decode cX3_tacky 10 = .ok (.aload_n 0, 1) := by decide +kernel
theorem dX3_tacky_11 : decode cX3_tacky 11 = .ok (.ldc 51, 2) := by decide +kernel
theorem dX3_tacky_13 : decode cX3_tacky 13 = .ok (.invokevirtual 52, 3) := by decide +kernel
theorem dX3_tacky_16 : decode cX3_tacky 16 = .ok (.ireturn, 1) := by decide +kernel
theorem dX3_tacky_17 : decode cX3_tacky 17 = .ok (.aload_n 0, 1) := by decide +kernel
theorem dX3_tacky_18 : decode cX3_tacky 18 = .ok (.getfield 10, 3) := by decide +kernel
theorem dX3_tacky_21 : decode cX3_tacky 21 = .ok (.getfield 56, 3) := by decide +kernel
theorem dX3_tacky_24 : decode cX3_tacky 24 = .ok (.istore_n 2, 1) := by decide +kernel
theorem dX3_tacky_25 : decode cX3_tacky 25 = .ok (.aload_n 0, 1) := by decide +kernel
theorem dX3_tacky_26 : decode cX3_tacky 26 = .ok (.getfield 10, 3) := by decide +kernel
theorem dX3_tacky_29 : decode cX3_tacky 29 = .ok (.iload_n 1, 1) := by decide +kernel
theorem dX3_tacky_30 : decode cX3_tacky 30 = .ok (.putfield 56, 3) := by decide +kernel
theorem dX3_tacky_33 : decode cX3_tacky 33 = .ok (.iload_n 2, 1) := by decide +kernel
theorem dX3_tacky_34 : decode cX3_tacky 34 = .ok (.ireturn, 1) := by decide +kernel
theorem dX3_now_0 : decode cX3_now 0 = .ok (.iload_n 1, 1) := by decide +kernel
theorem dX3_now_1 : decode cX3_now 1 = .ok (.tableswitch 124 0 7 #[47, 55, 63, 79, 87, 95, 103, 114], 47) := by decide +kernel
theorem dX3_now_48 : decode cX3_now 48 = .ok (.aload_n 0, 1) := by decide +kernel
theorem dX3_now_49 : decode cX3_now 49 = .ok (.getfield 10, 3) := by decide +kernel
theorem dX3_now_52 : decode cX3_now 52 = .ok (.getfield 60, 3) := by decide +kernel
theorem dX3_now_55 : decode cX3_now 55 = .ok (.ireturn, 1) := by decide +kernel
theorem dX3_now_56 : decode cX3_now 56 = .ok (.aload_n 0, 1) := by decide +kernel
theorem dX3_now_57 : decode cX3_now 57 = .ok (.getfield 10, 3) := by decide +kernel
theorem dX3_now_60 : decode cX3_now 60 = .ok (.invokevirtual 63, 3) := by decide +kernel
theorem dX3_now_63 : decode cX3_now 63 = .ok (.ireturn, 1) := by decide +kernel
theorem dX3_now_64 : decode cX3_now 64 = .ok (.aload_n 0, 1) := by decide +kernel
theorem dX3_now_65 : decode cX3_now 65 = .ok (.getfield 10, 3) := by decide +kernel
theorem dX3_now_68 : decode cX3_now 68 = .ok (.invokevirtual 67, 3) := by decide +kernel
theorem dX3_now_71 : decode cX3_now 71 = .ok (.ifCond .eq 7, 3) := by decide +kernel
theorem dX3_now_74 : decode cX3_now 74 = .ok (.iconst 1, 1) := by decide +kernel
theorem dX3_now_75 : decode cX3_now 75 = .ok (.goto 4, 3) := by decide +kernel
theorem dX3_now_78 : decode cX3_now 78 = .ok (.iconst 0, 1) := by decide +kernel
theorem dX3_now_79 : decode cX3_now 79 = .ok (.ireturn, 1) := by decide +kernel
theorem dX3_now_80 : decode cX3_now 80 = .ok (.aload_n 0, 1) := by decide +kernel
theorem dX3_now_81 : decode cX3_now 81 = .ok (.getfield 10, 3) := by decide +kernel
theorem dX3_now_84 : decode cX3_now 84 = .ok (.invokevirtual 71, 3) := by decide +kernel
theorem dX3_now_87 : decode cX3_now 87 = .ok (.ireturn, 1) := by decide +kernel
theorem dX3_now_88 : decode cX3_now 88 = .ok (.aload_n 0, 1) := by decide +kernel
theorem dX3_now_89 : decode cX3_now 89 = .ok (.getfield 10, 3) := by decide +kernel
theorem dX3_now_92 : decode cX3_now 92 = .ok (.invokevirtual 74, 3) := by decide +kernel
theorem dX3_now_95 : decode cX3_now 95 = .ok (.ireturn, 1) := by decide +kernel
theorem dX3_now_96 : decode cX3_now 96 = .ok (.aload_n 0, 1) := by decide +kernel
theorem dX3_now_97 : decode cX3_now 97 = .ok (.getfield 10, 3) := by decide +kernel
theorem dX3_now_100 : decode cX3_now 100 = .ok (.invokevirtual 77, 3) := by decide +kernel
theorem dX3_now_103 : decode cX3_now 103 = .ok (.ireturn, 1) := by decide +kernel
theorem dX3_now_104 : decode cX3_now 104 = .ok (.aload_n 0, 1) := by decide +kernel
theorem dX3_now_105 : decode cX3_now 105 = .ok (.getfield 10, 3) := by decide +kernel
theorem dX3_now_108 : decode cX3_now 108 = .ok (.bipush 7, 2) := by decide +kernel
theorem dX3_now_110 : decode cX3_now 110 = .ok (.iconst 1, 1) := by decide +kernel
theorem dX3_now_111 : decode cX3_now 111 = .ok (.invokevirtual 80, 3) := by decide +kernel
theorem dX3_now_114 : decode cX3_now 114 = .ok (.ireturn, 1) := by decide +kernel
theorem dX3_now_115 : decode cX3_now 115 = .ok (.aload_n 0, 1) := by decide +kernel
theorem dX3_now_116 : decode cX3_now 116 = .ok (.getfield 10, 3) := by decide +kernel
theorem dX3_now_119 : decode cX3_now 119 = .ok (.bipush 8, 2) := by decide +kernel
theorem dX3_now_121 : decode cX3_now 121 = .ok (.invokevirtual 84, 3) := by decide +kernel
theorem dX3_now_124 : decode cX3_now 124 = .ok (.ireturn, 1) := by decide +kernel
theorem dX3_now_125 : decode cX3_now 125 = .ok (.aload_n 0, 1) := by decide +kernel
theorem dX3_now_126 : decode cX3_now 126 = .ok (.ldc 51, 2) := by decide +kernel
theorem dX3_now_128 : decode cX3_now 128 = .ok (.invokevirtual 52, 3) := by decide +kernel
theorem dX3_now_131 : decode cX3_now 131 = .ok (.ireturn, 1) := by decide +kernel
theorem dX3_hangs_0 : decode cX3_hangs 0 = .ok (.iload_n 1, 1) := by decide +kernel
theorem dX3_hangs_1 : decode cX3_hangs 1 = .ok (.iconst 0, 1) := by decide +kernel
theorem dX3_hangs_2 : decode cX3_hangs 2 = .ok (.iconst 3, 1) := by decide +kernel
theorem dX3_hangs_3 : decode cX3_hangs 3 = .ok (.invokestatic 47, 3) := by decide +kernel
theorem dX3_hangs_6 : decode cX3_hangs 6 = .ok (.ifCond .eq 10, 3) := by decide +kernel
theorem dX3_hangs_9 : decode cX3_hangs 9 = .ok (.aload_n 0, 1) := by decide +kernel
theorem dX3_hangs_10 : decode cX3_hangs 10 = .ok (.ldc 51, 2) := by decide +kernel
theorem dX3_hangs_12 : decode cX3_hangs 12 = .ok (.invokevirtual 52, 3) := by decide +kernel
theorem dX3_hangs_15 : decode cX3_hangs 15 = .ok (.ireturn, 1) := by decide +kernel
theorem dX3_hangs_16 : decode cX3_hangs 16 = .ok (.aload_n 0, 1) := by decide +kernel
theorem dX3_hangs_17 : decode cX3_hangs 17 = .ok (.getfield 10, 3) := by decide +kernel
theorem dX3_hangs_20 : decode cX3_hangs 20 = .ok (.iconst 1, 1) := by decide +kernel
theorem dX3_hangs_21 : decode cX3_hangs 21 = .ok (.iload_n 1, 1) := by decide +kernel
theorem dX3_hangs_22 : decode cX3_hangs 22 = .ok (.invokevirtual 80, 3) := by decide +kernel
theorem dX3_hangs_25 : decode cX3_hangs 25 = .ok (.ireturn, 1) := by decide +kernel
theorem dX3_figure_0 : decode cX3_figure 0 = .ok (.iload_n 1, 1) := by decide +kernel
theorem dX3_figure_1 : decode cX3_figure 1 = .ok (.iconst 0, 1) := by decide +kernel
theorem dX3_figure_2 : decode cX3_figure 2 = .ok (.iconst 5, 1) := by decide +kernel
theorem dX3_figure_3 : decode cX3_figure 3 = .ok (.invokestatic 47, 3) := by decide +kernel
theorem dX3_figure_6 : decode cX3_figure 6 = .ok (.ifCond .ne 22, 3) := by decide +kernel
theorem dX3_figure_9 : decode cX3_figure 9 = .ok (.iload_n 2, 1) := by decide +kernel
theorem dX3_figure_10 : decode cX3_figure 10 = .ok (.iconst 0, 1) := by decide +kernel
theorem dX3_figure_11 : decode cX3_figure 11 = .ok (.iconst 3, 1) := by decide +kernel
theorem dX3_figure_12 : decode cX3_figure 12 = .ok (.invokestatic 47, 3) := by decide +kernel
theorem dX3_figure_15 : decode cX3_figure 15 = .ok (.ifCond .ne 13, 3) := by decide +kernel
theorem dX3_figure_18 : decode cX3_figure 18 = .ok (.iload_n 3, 1) := by decide +kernel
theorem dX3_figure_19 : decode cX3_figure 19 = .ok (.iconst 0, 1) := by decide +kernel
theorem dX3_figure_20 : decode cX3_figure 20 = .ok (.bipush 19, 2) := by decide +kernel
theorem dX3_figure_22 : decode cX3_figure 22 = .ok (.invokestatic 47, 3) := by decide +kernel
theorem dX3_figure_25 : decode cX3_figure 25 = .ok (.ifCond .eq 10, 3) := by decide +kernel
theorem dX3_figure_28 : decode cX3_figure 28 = .ok (.aload_n 0, 1) := by decide +kernel
theorem dX3_figure_29 : decode cX3_figure 29 = .ok (.ldc 51, 2) := by decide +kernel
theorem dX3_figure_31 : decode cX3_figure 31 = .ok (.invokevirtual 52, 3) := by decide +kernel
theorem dX3_figure_34 : decode cX3_figure 34 = .ok (.ireturn, 1) := by decide +kernel
theorem dX3_figure_35 : decode cX3_figure 35 = .ok (.aload_n 0, 1) := by decide +kernel
theorem dX3_figure_36 : decode cX3_figure 36 = .ok (.getfield 10, 3) := by decide +kernel
theorem dX3_figure_39 : decode cX3_figure 39 = .ok (.invokevirtual 87, 3) := by decide +kernel
theorem dX3_figure_42 : decode cX3_figure 42 = .ok (.ifCond .eq 10, 3) := by decide +kernel
theorem dX3_figure_45 : decode cX3_figure 45 = .ok (.aload_n 0, 1) := by decide +kernel
theorem dX3_figure_46 : decode cX3_figure 46 = .ok (.ldc 90, 2) := by decide +kernel
theorem dX3_figure_48 : decode cX3_figure 48 = .ok (.invokevirtual 52, 3) := by decide +kernel
theorem dX3_figure_51 : decode cX3_figure 51 = .ok (.ireturn, 1) := by decide +kernel
theorem dX3_figure_52 : decode cX3_figure 52 = .ok (.aload_n 0, 1) := by decide +kernel
theorem dX3_figure_53 : decode cX3_figure 53 = .ok (.getfield 10, 3) := by decide +kernel
theorem dX3_figure_56 : decode cX3_figure 56 = .ok (.iload_n 1, 1) := by decide +kernel
theorem dX3_figure_57 : decode cX3_figure 57 = .ok (.iload_n 2, 1) := by decide +kernel
theorem dX3_figure_58 : decode cX3_figure 58 = .ok (.iload_n 3, 1) := by decide +kernel
theorem dX3_figure_59 : decode cX3_figure 59 = .ok (.invokevirtual 91, 3) := by decide +kernel
theorem dX3_figure_62 : decode cX3_figure 62 = .ok (.ireturn, 1) := by decide +kernel
theorem dX3_of_0 : decode cX3_of 0 = .ok (.aload_n 0, 1) := by decide +kernel
theorem dX3_of_1 : decode cX3_of 1 = .ok (.getfield 10, 3) := by decide +kernel
theorem dX3_of_4 : decode cX3_of 4 = .ok (.iload_n 1, 1) := by decide +kernel
theorem dX3_of_5 : decode cX3_of 5 = .ok (.invokevirtual 95, 3) := by decide +kernel
theorem dX3_of_8 : decode cX3_of 8 = .ok (.ifCond .eq 10, 3) := by decide +kernel
theorem dX3_of_11 : decode cX3_of 11 = .ok (.aload_n 0, 1) := by decide +kernel
theorem dX3_of_12 : decode cX3_of 12 = .ok (.ldc 51, 2) := by decide +kernel
theorem dX3_of_14 : decode cX3_of 14 = .ok (.invokevirtual 52, 3) := by decide +kernel
theorem dX3_of_17 : decode cX3_of 17 = .ok (.ireturn, 1) := by decide +kernel
theorem dX3_of_18 : decode cX3_of 18 = .ok (.iload_n 2, 1) := by decide +kernel
theorem dX3_of_19 : decode cX3_of 19 = .ok (.tableswitch 68 9 11 #[25, 34, 51], 25) := by decide +kernel
theorem dX3_of_44 : decode cX3_of 44 = .ok (.aload_n 0, 1) := by decide +kernel
theorem dX3_of_45 : decode cX3_of 45 = .ok (.getfield 10, 3) := by decide +kernel
theorem dX3_of_48 : decode cX3_of 48 = .ok (.iload_n 1, 1) := by decide +kernel
theorem dX3_of_49 : decode cX3_of 49 = .ok (.invokevirtual 99, 3) := by decide +kernel
theorem dX3_of_52 : decode cX3_of 52 = .ok (.ireturn, 1) := by decide +kernel
theorem dX3_of_53 : decode cX3_of 53 = .ok (.aload_n 0, 1) := by decide +kernel
theorem dX3_of_54 : decode cX3_of 54 = .ok (.getfield 10, 3) := by decide +kernel
theorem dX3_of_57 : decode cX3_of 57 = .ok (.iload_n 1, 1) := by decide +kernel
theorem dX3_of_58 : decode cX3_of 58 = .ok (.invokevirtual 102, 3) := by decide +kernel
theorem dX3_of_61 : decode cX3_of 61 = .ok (.ifCond .eq 7, 3) := by decide +kernel
theorem dX3_of_64 : decode cX3_of 64 = .ok (.iconst 1, 1) := by decide +kernel
theorem dX3_of_65 : decode cX3_of 65 = .ok (.goto 4, 3) := by decide +kernel
theorem dX3_of_68 : decode cX3_of 68 = .ok (.iconst 0, 1) := by decide +kernel
theorem dX3_of_69 : decode cX3_of 69 = .ok (.ireturn, 1) := by decide +kernel
theorem dX3_of_70 : decode cX3_of 70 = .ok (.aload_n 0, 1) := by decide +kernel
theorem dX3_of_71 : decode cX3_of 71 = .ok (.getfield 10, 3) := by decide +kernel
theorem dX3_of_74 : decode cX3_of 74 = .ok (.iload_n 1, 1) := by decide +kernel
theorem dX3_of_75 : decode cX3_of 75 = .ok (.invokevirtual 105, 3) := by decide +kernel
theorem dX3_of_78 : decode cX3_of 78 = .ok (.ifCond .eq 7, 3) := by decide +kernel
theorem dX3_of_81 : decode cX3_of 81 = .ok (.iconst 1, 1) := by decide +kernel
theorem dX3_of_82 : decode cX3_of 82 = .ok (.goto 4, 3) := by decide +kernel
theorem dX3_of_85 : decode cX3_of 85 = .ok (.iconst 0, 1) := by decide +kernel
theorem dX3_of_86 : decode cX3_of 86 = .ok (.ireturn, 1) := by decide +kernel
theorem dX3_of_87 : decode cX3_of 87 = .ok (.iload_n 2, 1) := by decide +kernel
theorem dX3_of_88 : decode cX3_of 88 = .ok (.iconst 0, 1) := by decide +kernel
theorem dX3_of_89 : decode cX3_of 89 = .ok (.bipush 8, 2) := by decide +kernel
theorem dX3_of_91 : decode cX3_of 91 = .ok (.invokestatic 47, 3) := by decide +kernel
theorem dX3_of_94 : decode cX3_of 94 = .ok (.ifCond .eq 12, 3) := by decide +kernel
theorem dX3_of_97 : decode cX3_of 97 = .ok (.aload_n 0, 1) := by decide +kernel
theorem dX3_of_98 : decode cX3_of 98 = .ok (.ldc 51, 2) := by decide +kernel
theorem dX3_of_100 : decode cX3_of 100 = .ok (.invokevirtual 52, 3) := by decide +kernel
theorem dX3_of_103 : decode cX3_of 103 = .ok (.goto 12, 3) := by decide +kernel
theorem dX3_of_106 : decode cX3_of 106 = .ok (.aload_n 0, 1) := by decide +kernel
theorem dX3_of_107 : decode cX3_of 107 = .ok (.getfield 10, 3) := by decide +kernel
theorem dX3_of_110 : decode cX3_of 110 = .ok (.iload_n 1, 1) := by decide +kernel
theorem dX3_of_111 : decode cX3_of 111 = .ok (.iload_n 2, 1) := by decide +kernel
theorem dX3_of_112 : decode cX3_of 112 = .ok (.invokevirtual 108, 3) := by decide +kernel
theorem dX3_of_115 : decode cX3_of 115 = .ok (.ireturn, 1) := by decide +kernel
theorem dX3_set_0 : decode cX3_set 0 = .ok (.aload_n 0, 1) := by decide +kernel
theorem dX3_set_1 : decode cX3_set 1 = .ok (.getfield 10, 3) := by decide +kernel
theorem dX3_set_4 : decode cX3_set 4 = .ok (.iload_n 1, 1) := by decide +kernel
theorem dX3_set_5 : decode cX3_set 5 = .ok (.invokevirtual 95, 3) := by decide +kernel
theorem dX3_set_8 : decode cX3_set 8 = .ok (.ifCond .ne 29, 3) := by decide +kernel
theorem dX3_set_11 : decode cX3_set 11 = .ok (.iload_n 2, 1) := by decide +kernel
theorem dX3_set_12 : decode cX3_set 12 = .ok (.iconst 1, 1) := by decide +kernel
theorem dX3_set_13 : decode cX3_set 13 = .ok (.bipush 8, 2) := by decide +kernel
theorem dX3_set_15 : decode cX3_set 15 = .ok (.invokestatic 47, 3) := by decide +kernel
theorem dX3_set_18 : decode cX3_set 18 = .ok (.ifCond .ne 19, 3) := by decide +kernel
theorem dX3_set_21 : decode cX3_set 21 = .ok (.iload_n 3, 1) := by decide +kernel
theorem dX3_set_22 : decode cX3_set 22 = .ok (.iload_n 2, 1) := by decide +kernel
theorem dX3_set_23 : decode cX3_set 23 = .ok (.invokestatic 111, 3) := by decide +kernel
theorem dX3_set_26 : decode cX3_set 26 = .ok (.aload_n 0, 1) := by decide +kernel
theorem dX3_set_27 : decode cX3_set 27 = .ok (.iload_n 2, 1) := by decide +kernel
theorem dX3_set_28 : decode cX3_set 28 = .ok (.invokevirtual 114, 3) := by decide +kernel
theorem dX3_set_31 : decode cX3_set 31 = .ok (.invokestatic 47, 3) := by decide +kernel
theorem dX3_set_34 : decode cX3_set 34 = .ok (.ifCond .eq 10, 3) := by decide +kernel
theorem dX3_set_37 : decode cX3_set 37 = .ok (.aload_n 0, 1) := by decide +kernel
theorem dX3_set_38 : decode cX3_set 38 = .ok (.ldc 51, 2) := by decide +kernel
theorem dX3_set_40 : decode cX3_set 40 = .ok (.invokevirtual 52, 3) := by decide +kernel
theorem dX3_set_43 : decode cX3_set 43 = .ok (.ireturn, 1) := by decide +kernel
theorem dX3_set_44 : decode cX3_set 44 = .ok (.aload_n 0, 1) := by decide +kernel
theorem dX3_set_45 : decode cX3_set 45 = .ok (.getfield 10, 3) := by decide +kernel
theorem dX3_set_48 : decode cX3_set 48 = .ok (.iload_n 1, 1) := by decide +kernel
theorem dX3_set_49 : decode cX3_set 49 = .ok (.iload_n 2, 1) := by decide +kernel
theorem dX3_set_50 : decode cX3_set 50 = .ok (.invokevirtual 108, 3) := by decide +kernel
theorem dX3_set_53 : decode cX3_set 53 = .ok (.istore 4, 2) := by decide +kernel
theorem dX3_set_55 : decode cX3_set 55 = .ok (.aload_n 0, 1) := by decide +kernel
theorem dX3_set_56 : decode cX3_set 56 = .ok (.getfield 10, 3) := by decide +kernel
theorem dX3_set_59 : decode cX3_set 59 = .ok (.iload_n 1, 1) := by decide +kernel
theorem dX3_set_60 : decode cX3_set 60 = .ok (.iload_n 2, 1) := by decide +kernel
theorem dX3_set_61 : decode cX3_set 61 = .ok (.iload_n 3, 1) := by decide +kernel
theorem dX3_set_62 : decode cX3_set 62 = .ok (.invokevirtual 117, 3) := by decide +kernel
theorem dX3_set_65 : decode cX3_set 65 = .ok (.iload 4, 2) := by decide +kernel
theorem dX3_set_67 : decode cX3_set 67 = .ok (.ireturn, 1) := by decide +kernel
theorem dX3_seen_0 : decode cX3_seen 0 = .ok (.aload_n 0, 1) := by decide +kernel
theorem dX3_seen_1 : decode cX3_seen 1 = .ok (.getfield 10, 3) := by decide +kernel
theorem dX3_seen_4 : decode cX3_seen 4 = .ok (.iload_n 1, 1) := by decide +kernel
theorem dX3_seen_5 : decode cX3_seen 5 = .ok (.invokevirtual 95, 3) := by decide +kernel
theorem dX3_seen_8 : decode cX3_seen 8 = .ok (.ifCond .eq 10, 3) := by decide +kernel
theorem dX3_seen_11 : decode cX3_seen 11 = .ok (.aload_n 0, 1) := by decide +kernel
theorem dX3_seen_12 : decode cX3_seen 12 = .ok (.ldc 51, 2) := by decide +kernel
theorem dX3_seen_14 : decode cX3_seen 14 = .ok (.invokevirtual 52, 3) := by decide +kernel
theorem dX3_seen_17 : decode cX3_seen 17 = .ok (.ireturn, 1) := by decide +kernel
theorem dX3_seen_18 : decode cX3_seen 18 = .ok (.aload_n 0, 1) := by decide +kernel
theorem dX3_seen_19 : decode cX3_seen 19 = .ok (.getfield 10, 3) := by decide +kernel
theorem dX3_seen_22 : decode cX3_seen 22 = .ok (.iload_n 1, 1) := by decide +kernel
theorem dX3_seen_23 : decode cX3_seen 23 = .ok (.invokevirtual 121, 3) := by decide +kernel
theorem dX3_seen_26 : decode cX3_seen 26 = .ok (.ireturn, 1) := by decide +kernel
theorem dX3_turn_0 : decode cX3_turn 0 = .ok (.aload_n 0, 1) := by decide +kernel
theorem dX3_turn_1 : decode cX3_turn 1 = .ok (.getfield 10, 3) := by decide +kernel
theorem dX3_turn_4 : decode cX3_turn 4 = .ok (.iload_n 1, 1) := by decide +kernel
theorem dX3_turn_5 : decode cX3_turn 5 = .ok (.invokevirtual 95, 3) := by decide +kernel
theorem dX3_turn_8 : decode cX3_turn 8 = .ok (.ifCond .ne 12, 3) := by decide +kernel
theorem dX3_turn_11 : decode cX3_turn 11 = .ok (.iload_n 2, 1) := by decide +kernel
theorem dX3_turn_12 : decode cX3_turn 12 = .ok (.iconst 0, 1) := by decide +kernel
theorem dX3_turn_13 : decode cX3_turn 13 = .ok (.iconst 5, 1) := by decide +kernel
theorem dX3_turn_14 : decode cX3_turn 14 = .ok (.invokestatic 47, 3) := by decide +kernel
theorem dX3_turn_17 : decode cX3_turn 17 = .ok (.ifCond .eq 10, 3) := by decide +kernel
theorem dX3_turn_20 : decode cX3_turn 20 = .ok (.aload_n 0, 1) := by decide +kernel
theorem dX3_turn_21 : decode cX3_turn 21 = .ok (.ldc 51, 2) := by decide +kernel
theorem dX3_turn_23 : decode cX3_turn 23 = .ok (.invokevirtual 52, 3) := by decide +kernel
theorem dX3_turn_26 : decode cX3_turn 26 = .ok (.ireturn, 1) := by decide +kernel
theorem dX3_turn_27 : decode cX3_turn 27 = .ok (.aload_n 0, 1) := by decide +kernel
theorem dX3_turn_28 : decode cX3_turn 28 = .ok (.getfield 10, 3) := by decide +kernel
theorem dX3_turn_31 : decode cX3_turn 31 = .ok (.iload_n 1, 1) := by decide +kernel
theorem dX3_turn_32 : decode cX3_turn 32 = .ok (.iconst 0, 1) := by decide +kernel
theorem dX3_turn_33 : decode cX3_turn 33 = .ok (.invokevirtual 108, 3) := by decide +kernel
theorem dX3_turn_36 : decode cX3_turn 36 = .ok (.istore_n 3, 1) := by decide +kernel
theorem dX3_turn_37 : decode cX3_turn 37 = .ok (.aload_n 0, 1) := by decide +kernel
theorem dX3_turn_38 : decode cX3_turn 38 = .ok (.getfield 10, 3) := by decide +kernel
theorem dX3_turn_41 : decode cX3_turn 41 = .ok (.iload_n 1, 1) := by decide +kernel
theorem dX3_turn_42 : decode cX3_turn 42 = .ok (.iconst 0, 1) := by decide +kernel
theorem dX3_turn_43 : decode cX3_turn 43 = .ok (.iload_n 2, 1) := by decide +kernel
theorem dX3_turn_44 : decode cX3_turn 44 = .ok (.invokevirtual 117, 3) := by decide +kernel
theorem dX3_turn_47 : decode cX3_turn 47 = .ok (.iload_n 3, 1) := by decide +kernel
theorem dX3_turn_48 : decode cX3_turn 48 = .ok (.ireturn, 1) := by decide +kernel
theorem dX3_as_0 : decode cX3_as 0 = .ok (.aload_n 0, 1) := by decide +kernel
theorem dX3_as_1 : decode cX3_as 1 = .ok (.getfield 10, 3) := by decide +kernel
theorem dX3_as_4 : decode cX3_as 4 = .ok (.iload_n 1, 1) := by decide +kernel
theorem dX3_as_5 : decode cX3_as 5 = .ok (.invokevirtual 95, 3) := by decide +kernel
theorem dX3_as_8 : decode cX3_as 8 = .ok (.ifCond .ne 12, 3) := by decide +kernel
theorem dX3_as_11 : decode cX3_as 11 = .ok (.iload_n 2, 1) := by decide +kernel
theorem dX3_as_12 : decode cX3_as 12 = .ok (.iconst 0, 1) := by decide +kernel
theorem dX3_as_13 : decode cX3_as 13 = .ok (.iconst 5, 1) := by decide +kernel
theorem dX3_as_14 : decode cX3_as 14 = .ok (.invokestatic 47, 3) := by decide +kernel
theorem dX3_as_17 : decode cX3_as 17 = .ok (.ifCond .eq 10, 3) := by decide +kernel
theorem dX3_as_20 : decode cX3_as 20 = .ok (.aload_n 0, 1) := by decide +kernel
theorem dX3_as_21 : decode cX3_as 21 = .ok (.ldc 51, 2) := by decide +kernel
theorem dX3_as_23 : decode cX3_as 23 = .ok (.invokevirtual 52, 3) := by decide +kernel
theorem dX3_as_26 : decode cX3_as 26 = .ok (.ireturn, 1) := by decide +kernel
theorem dX3_as_27 : decode cX3_as 27 = .ok (.aload_n 0, 1) := by decide +kernel
theorem dX3_as_28 : decode cX3_as 28 = .ok (.getfield 10, 3) := by decide +kernel
theorem dX3_as_31 : decode cX3_as 31 = .ok (.iload_n 1, 1) := by decide +kernel
theorem dX3_as_32 : decode cX3_as 32 = .ok (.iconst 0, 1) := by decide +kernel
theorem dX3_as_33 : decode cX3_as 33 = .ok (.invokevirtual 108, 3) := by decide +kernel
theorem dX3_as_36 : decode cX3_as 36 = .ok (.iload_n 2, 1) := by decide +kernel
theorem dX3_as_37 : decode cX3_as 37 = .ok (.invokestatic 124, 3) := by decide +kernel
theorem dX3_as_40 : decode cX3_as 40 = .ok (.ifCond .ne 10, 3) := by decide +kernel
theorem dX3_as_43 : decode cX3_as 43 = .ok (.aload_n 0, 1) := by decide +kernel
theorem dX3_as_44 : decode cX3_as 44 = .ok (.ldc 128, 2) := by decide +kernel
theorem dX3_as_46 : decode cX3_as 46 = .ok (.invokevirtual 52, 3) := by decide +kernel
theorem dX3_as_49 : decode cX3_as 49 = .ok (.ireturn, 1) := by decide +kernel
theorem dX3_as_50 : decode cX3_as 50 = .ok (.aload_n 0, 1) := by decide +kernel
theorem dX3_as_51 : decode cX3_as 51 = .ok (.getfield 10, 3) := by decide +kernel
theorem dX3_as_54 : decode cX3_as 54 = .ok (.iload_n 1, 1) := by decide +kernel
theorem dX3_as_55 : decode cX3_as 55 = .ok (.iconst 3, 1) := by decide +kernel
theorem dX3_as_56 : decode cX3_as 56 = .ok (.invokevirtual 108, 3) := by decide +kernel
theorem dX3_as_59 : decode cX3_as 59 = .ok (.ireturn, 1) := by decide +kernel
theorem dX3_hours_0 : decode cX3_hours 0 = .ok (.iload_n 1, 1) := by decide +kernel
theorem dX3_hours_1 : decode cX3_hours 1 = .ok (.iconst 1, 1) := by decide +kernel
theorem dX3_hours_2 : decode cX3_hours 2 = .ok (.bipush 100, 2) := by decide +kernel
theorem dX3_hours_4 : decode cX3_hours 4 = .ok (.invokestatic 47, 3) := by decide +kernel
theorem dX3_hours_7 : decode cX3_hours 7 = .ok (.ifCond .eq 10, 3) := by decide +kernel
theorem dX3_hours_10 : decode cX3_hours 10 = .ok (.aload_n 0, 1) := by decide +kernel
theorem dX3_hours_11 : decode cX3_hours 11 = .ok (.ldc 51, 2) := by decide +kernel
theorem dX3_hours_13 : decode cX3_hours 13 = .ok (.invokevirtual 52, 3) := by decide +kernel
theorem dX3_hours_16 : decode cX3_hours 16 = .ok (.ireturn, 1) := by decide +kernel
theorem dX3_hours_17 : decode cX3_hours 17 = .ok (.aload_n 0, 1) := by decide +kernel
theorem dX3_hours_18 : decode cX3_hours 18 = .ok (.getfield 10, 3) := by decide +kernel
theorem dX3_hours_21 : decode cX3_hours 21 = .ok (.getfield 60, 3) := by decide +kernel
theorem dX3_hours_24 : decode cX3_hours 24 = .ok (.ldc 129, 2) := by decide +kernel
theorem dX3_hours_26 : decode cX3_hours 26 = .ok (.iload_n 1, 1) := by decide +kernel
theorem dX3_hours_27 : decode cX3_hours 27 = .ok (.isub, 1) := by decide +kernel
theorem dX3_hours_28 : decode cX3_hours 28 = .ok (.if_icmp .le 10, 3) := by decide +kernel
theorem dX3_hours_31 : decode cX3_hours 31 = .ok (.aload_n 0, 1) := by decide +kernel
theorem dX3_hours_32 : decode cX3_hours 32 = .ok (.ldc 130, 2) := by decide +kernel
theorem dX3_hours_34 : decode cX3_hours 34 = .ok (.invokevirtual 52, 3) := by decide +kernel
theorem dX3_hours_37 : decode cX3_hours 37 = .ok (.ireturn, 1) := by decide +kernel
theorem dX3_hours_38 : decode cX3_hours 38 = .ok (.aload_n 0, 1) := by decide +kernel
theorem dX3_hours_39 : decode cX3_hours 39 = .ok (.getfield 10, 3) := by decide +kernel
theorem dX3_hours_42 : decode cX3_hours 42 = .ok (.iload_n 1, 1) := by decide +kernel
theorem dX3_hours_43 : decode cX3_hours 43 = .ok (.invokevirtual 131, 3) := by decide +kernel
theorem dX3_hours_46 : decode cX3_hours 46 = .ok (.aload_n 0, 1) := by decide +kernel
theorem dX3_hours_47 : decode cX3_hours 47 = .ok (.getfield 10, 3) := by decide +kernel
theorem dX3_hours_50 : decode cX3_hours 50 = .ok (.invokevirtual 71, 3) := by decide +kernel
theorem dX3_hours_53 : decode cX3_hours 53 = .ok (.ireturn, 1) := by decide +kernel
theorem dX3_on_0 : decode cX3_on 0 = .ok (.aload_n 0, 1) := by decide +kernel
theorem dX3_on_1 : decode cX3_on 1 = .ok (.getfield 10, 3) := by decide +kernel
theorem dX3_on_4 : decode cX3_on 4 = .ok (.iload_n 1, 1) := by decide +kernel
theorem dX3_on_5 : decode cX3_on 5 = .ok (.invokevirtual 95, 3) := by decide +kernel
theorem dX3_on_8 : decode cX3_on 8 = .ok (.ifCond .ne 23, 3) := by decide +kernel
theorem dX3_on_11 : decode cX3_on 11 = .ok (.iload_n 2, 1) := by decide +kernel
theorem dX3_on_12 : decode cX3_on 12 = .ok (.iconst 0, 1) := by decide +kernel
theorem dX3_on_13 : decode cX3_on 13 = .ok (.sipush 200, 3) := by decide +kernel
theorem dX3_on_16 : decode cX3_on 16 = .ok (.invokestatic 47, 3) := by decide +kernel
theorem dX3_on_19 : decode cX3_on 19 = .ok (.ifCond .ne 12, 3) := by decide +kernel
theorem dX3_on_22 : decode cX3_on 22 = .ok (.iload_n 3, 1) := by decide +kernel
theorem dX3_on_23 : decode cX3_on 23 = .ok (.iconst 0, 1) := by decide +kernel
theorem dX3_on_24 : decode cX3_on 24 = .ok (.iconst 3, 1) := by decide +kernel
theorem dX3_on_25 : decode cX3_on 25 = .ok (.invokestatic 47, 3) := by decide +kernel
theorem dX3_on_28 : decode cX3_on 28 = .ok (.ifCond .eq 10, 3) := by decide +kernel
theorem dX3_on_31 : decode cX3_on 31 = .ok (.aload_n 0, 1) := by decide +kernel
theorem dX3_on_32 : decode cX3_on 32 = .ok (.ldc 51, 2) := by decide +kernel
theorem dX3_on_34 : decode cX3_on 34 = .ok (.invokevirtual 52, 3) := by decide +kernel
theorem dX3_on_37 : decode cX3_on 37 = .ok (.ireturn, 1) := by decide +kernel
theorem dX3_on_38 : decode cX3_on 38 = .ok (.aload_n 0, 1) := by decide +kernel
theorem dX3_on_39 : decode cX3_on 39 = .ok (.getfield 16, 3) := by decide +kernel
theorem dX3_on_42 : decode cX3_on 42 = .ok (.aload_n 0, 1) := by decide +kernel
theorem dX3_on_43 : decode cX3_on 43 = .ok (.getfield 10, 3) := by decide +kernel
theorem dX3_on_46 : decode cX3_on 46 = .ok (.invokevirtual 135, 3) := by decide +kernel
theorem dX3_on_49 : decode cX3_on 49 = .ok (.aload_n 0, 1) := by decide +kernel
theorem dX3_on_50 : decode cX3_on 50 = .ok (.getfield 16, 3) := by decide +kernel
theorem dX3_on_53 : decode cX3_on 53 = .ok (.iload_n 2, 1) := by decide +kernel
theorem dX3_on_54 : decode cX3_on 54 = .ok (.invokevirtual 131, 3) := by decide +kernel
theorem dX3_on_57 : decode cX3_on 57 = .ok (.iload_n 3, 1) := by decide +kernel
theorem dX3_on_58 : decode cX3_on 58 = .ok (.tableswitch 56 0 2 #[26, 36, 46], 26) := by decide +kernel
theorem dX3_on_84 : decode cX3_on 84 = .ok (.aload_n 0, 1) := by decide +kernel
theorem dX3_on_85 : decode cX3_on 85 = .ok (.getfield 16, 3) := by decide +kernel
theorem dX3_on_88 : decode cX3_on 88 = .ok (.iload_n 1, 1) := by decide +kernel
theorem dX3_on_89 : decode cX3_on 89 = .ok (.iconst 2, 1) := by decide +kernel
theorem dX3_on_90 : decode cX3_on 90 = .ok (.invokevirtual 108, 3) := by decide +kernel
theorem dX3_on_93 : decode cX3_on 93 = .ok (.ireturn, 1) := by decide +kernel
theorem dX3_on_94 : decode cX3_on 94 = .ok (.aload_n 0, 1) := by decide +kernel
theorem dX3_on_95 : decode cX3_on 95 = .ok (.getfield 16, 3) := by decide +kernel
theorem dX3_on_98 : decode cX3_on 98 = .ok (.iload_n 1, 1) := by decide +kernel
theorem dX3_on_99 : decode cX3_on 99 = .ok (.iconst 3, 1) := by decide +kernel
theorem dX3_on_100 : decode cX3_on 100 = .ok (.invokevirtual 108, 3) := by decide +kernel
theorem dX3_on_103 : decode cX3_on 103 = .ok (.ireturn, 1) := by decide +kernel
theorem dX3_on_104 : decode cX3_on 104 = .ok (.aload_n 0, 1) := by decide +kernel
theorem dX3_on_105 : decode cX3_on 105 = .ok (.getfield 16, 3) := by decide +kernel
theorem dX3_on_108 : decode cX3_on 108 = .ok (.iload_n 1, 1) := by decide +kernel
theorem dX3_on_109 : decode cX3_on 109 = .ok (.iconst 4, 1) := by decide +kernel
theorem dX3_on_110 : decode cX3_on 110 = .ok (.invokevirtual 108, 3) := by decide +kernel
theorem dX3_on_113 : decode cX3_on 113 = .ok (.ireturn, 1) := by decide +kernel
theorem dX3_on_114 : decode cX3_on 114 = .ok (.aload_n 0, 1) := by decide +kernel
theorem dX3_on_115 : decode cX3_on 115 = .ok (.getfield 16, 3) := by decide +kernel
theorem dX3_on_118 : decode cX3_on 118 = .ok (.iload_n 1, 1) := by decide +kernel
theorem dX3_on_119 : decode cX3_on 119 = .ok (.bipush 8, 2) := by decide +kernel
theorem dX3_on_121 : decode cX3_on 121 = .ok (.invokevirtual 108, 3) := by decide +kernel
theorem dX3_on_124 : decode cX3_on 124 = .ok (.ireturn, 1) := by decide +kernel
theorem dX3_when_0 : decode cX3_when 0 = .ok (.aload_n 0, 1) := by decide +kernel
theorem dX3_when_1 : decode cX3_when 1 = .ok (.getfield 10, 3) := by decide +kernel
theorem dX3_when_4 : decode cX3_when 4 = .ok (.iload_n 1, 1) := by decide +kernel
theorem dX3_when_5 : decode cX3_when 5 = .ok (.invokevirtual 95, 3) := by decide +kernel
theorem dX3_when_8 : decode cX3_when 8 = .ok (.ifCond .eq 10, 3) := by decide +kernel
theorem dX3_when_11 : decode cX3_when 11 = .ok (.aload_n 0, 1) := by decide +kernel
theorem dX3_when_12 : decode cX3_when 12 = .ok (.ldc 51, 2) := by decide +kernel
theorem dX3_when_14 : decode cX3_when 14 = .ok (.invokevirtual 52, 3) := by decide +kernel
theorem dX3_when_17 : decode cX3_when 17 = .ok (.ireturn, 1) := by decide +kernel
theorem dX3_when_18 : decode cX3_when 18 = .ok (.aload_n 0, 1) := by decide +kernel
theorem dX3_when_19 : decode cX3_when 19 = .ok (.iconst 1, 1) := by decide +kernel
theorem dX3_when_20 : decode cX3_when 20 = .ok (.iload_n 1, 1) := by decide +kernel
theorem dX3_when_21 : decode cX3_when 21 = .ok (.ishl, 1) := by decide +kernel
theorem dX3_when_22 : decode cX3_when 22 = .ok (.invokevirtual 139, 3) := by decide +kernel
theorem dX3_when_25 : decode cX3_when 25 = .ok (.ireturn, 1) := by decide +kernel
theorem dX3_all_0 : decode cX3_all 0 = .ok (.aload_n 0, 1) := by decide +kernel
theorem dX3_all_1 : decode cX3_all 1 = .ok (.aload_n 0, 1) := by decide +kernel
theorem dX3_all_2 : decode cX3_all 2 = .ok (.getfield 10, 3) := by decide +kernel
theorem dX3_all_5 : decode cX3_all 5 = .ok (.invokevirtual 142, 3) := by decide +kernel
theorem dX3_all_8 : decode cX3_all 8 = .ok (.invokevirtual 139, 3) := by decide +kernel
theorem dX3_all_11 : decode cX3_all 11 = .ok (.ireturn, 1) := by decide +kernel
theorem dX3_many_0 : decode cX3_many 0 = .ok (.iload_n 1, 1) := by decide +kernel
theorem dX3_many_1 : decode cX3_many 1 = .ok (.iconst 0, 1) := by decide +kernel
theorem dX3_many_2 : decode cX3_many 2 = .ok (.sipush 200, 3) := by decide +kernel
theorem dX3_many_5 : decode cX3_many 5 = .ok (.invokestatic 47, 3) := by decide +kernel
theorem dX3_many_8 : decode cX3_many 8 = .ok (.ifCond .eq 10, 3) := by decide +kernel
theorem dX3_many_11 : decode cX3_many 11 = .ok (.aload_n 0, 1) := by decide +kernel
theorem dX3_many_12 : decode cX3_many 12 = .ok (.ldc 51, 2) := by decide +kernel
theorem dX3_many_14 : decode cX3_many 14 = .ok (.invokevirtual 52, 3) := by decide +kernel
theorem dX3_many_17 : decode cX3_many 17 = .ok (.ireturn, 1) := by decide +kernel
theorem dX3_many_18 : decode cX3_many 18 = .ok (.aload_n 0, 1) := by decide +kernel
theorem dX3_many_19 : decode cX3_many 19 = .ok (.getfield 16, 3) := by decide +kernel
theorem dX3_many_22 : decode cX3_many 22 = .ok (.aload_n 0, 1) := by decide +kernel
theorem dX3_many_23 : decode cX3_many 23 = .ok (.getfield 10, 3) := by decide +kernel
theorem dX3_many_26 : decode cX3_many 26 = .ok (.invokevirtual 135, 3) := by decide +kernel
theorem dX3_many_29 : decode cX3_many 29 = .ok (.aload_n 0, 1) := by decide +kernel
theorem dX3_many_30 : decode cX3_many 30 = .ok (.getfield 16, 3) := by decide +kernel
theorem dX3_many_33 : decode cX3_many 33 = .ok (.iload_n 1, 1) := by decide +kernel
theorem dX3_many_34 : decode cX3_many 34 = .ok (.invokevirtual 131, 3) := by decide +kernel
theorem dX3_many_37 : decode cX3_many 37 = .ok (.aload_n 0, 1) := by decide +kernel
theorem dX3_many_38 : decode cX3_many 38 = .ok (.getfield 16, 3) := by decide +kernel
theorem dX3_many_41 : decode cX3_many 41 = .ok (.invokevirtual 145, 3) := by decide +kernel
theorem dX3_many_44 : decode cX3_many 44 = .ok (.ireturn, 1) := by decide +kernel
theorem dX3_porter_0 : decode cX3_porter 0 = .ok (.iload_n 1, 1) := by decide +kernel
theorem dX3_porter_1 : decode cX3_porter 1 = .ok (.iconst 1, 1) := by decide +kernel
theorem dX3_porter_2 : decode cX3_porter 2 = .ok (.bipush 40, 2) := by decide +kernel
theorem dX3_porter_4 : decode cX3_porter 4 = .ok (.invokestatic 47, 3) := by decide +kernel
theorem dX3_porter_7 : decode cX3_porter 7 = .ok (.ifCond .eq 10, 3) := by decide +kernel
theorem dX3_porter_10 : decode cX3_porter 10 = .ok (.aload_n 0, 1) := by decide +kernel
theorem dX3_porter_11 : decode cX3_porter 11 = .ok (.ldc 51, 2) := by decide +kernel
theorem dX3_porter_13 : decode cX3_porter 13 = .ok (.invokevirtual 52, 3) := by decide +kernel
theorem dX3_porter_16 : decode cX3_porter 16 = .ok (.ireturn, 1) := by decide +kernel
theorem dX3_porter_17 : decode cX3_porter 17 = .ok (.iconst (-1), 1) := by decide +kernel
theorem dX3_porter_18 : decode cX3_porter 18 = .ok (.istore_n 2, 1) := by decide +kernel
theorem dX3_porter_19 : decode cX3_porter 19 = .ok (.iconst (-1), 1) := by decide +kernel
theorem dX3_porter_20 : decode cX3_porter 20 = .ok (.istore_n 3, 1) := by decide +kernel
theorem dX3_porter_21 : decode cX3_porter 21 = .ok (.iconst 0, 1) := by decide +kernel
theorem dX3_porter_22 : decode cX3_porter 22 = .ok (.istore 4, 2) := by decide +kernel
theorem dX3_porter_24 : decode cX3_porter 24 = .ok (.iload 4, 2) := by decide +kernel
theorem dX3_porter_26 : decode cX3_porter 26 = .ok (.aload_n 0, 1) := by decide +kernel
theorem dX3_porter_27 : decode cX3_porter 27 = .ok (.getfield 10, 3) := by decide +kernel
theorem dX3_porter_30 : decode cX3_porter 30 = .ok (.getfield 148, 3) := by decide +kernel
theorem dX3_porter_33 : decode cX3_porter 33 = .ok (.if_icmp .ge 61, 3) := by decide +kernel
theorem dX3_porter_36 : decode cX3_porter 36 = .ok (.aload_n 0, 1) := by decide +kernel
theorem dX3_porter_37 : decode cX3_porter 37 = .ok (.getfield 10, 3) := by decide +kernel
theorem dX3_porter_40 : decode cX3_porter 40 = .ok (.iload 4, 2) := by decide +kernel
theorem dX3_porter_42 : decode cX3_porter 42 = .ok (.bipush 7, 2) := by decide +kernel
theorem dX3_porter_44 : decode cX3_porter 44 = .ok (.invokevirtual 108, 3) := by decide +kernel
theorem dX3_porter_47 : decode cX3_porter 47 = .ok (.ifCond .ne 41, 3) := by decide +kernel
theorem dX3_porter_50 : decode cX3_porter 50 = .ok (.aload_n 0, 1) := by decide +kernel
theorem dX3_porter_51 : decode cX3_porter 51 = .ok (.iload 4, 2) := by decide +kernel
theorem dX3_porter_53 : decode cX3_porter 53 = .ok (.bipush 7, 2) := by decide +kernel
theorem dX3_porter_55 : decode cX3_porter 55 = .ok (.iconst 1, 1) := by decide +kernel
theorem dX3_porter_56 : decode cX3_porter 56 = .ok (.invokevirtual 151, 3) := by decide +kernel
theorem dX3_porter_59 : decode cX3_porter 59 = .ok (.aload_n 0, 1) := by decide +kernel
theorem dX3_porter_60 : decode cX3_porter 60 = .ok (.getfield 16, 3) := by decide +kernel
theorem dX3_porter_63 : decode cX3_porter 63 = .ok (.iload_n 1, 1) := by decide +kernel
theorem dX3_porter_64 : decode cX3_porter 64 = .ok (.invokevirtual 131, 3) := by decide +kernel
theorem dX3_porter_67 : decode cX3_porter 67 = .ok (.aload_n 0, 1) := by decide +kernel
theorem dX3_porter_68 : decode cX3_porter 68 = .ok (.getfield 16, 3) := by decide +kernel
theorem dX3_porter_71 : decode cX3_porter 71 = .ok (.invokevirtual 145, 3) := by decide +kernel
theorem dX3_porter_74 : decode cX3_porter 74 = .ok (.istore 5, 2) := by decide +kernel
theorem dX3_porter_76 : decode cX3_porter 76 = .ok (.iload 5, 2) := by decide +kernel
theorem dX3_porter_78 : decode cX3_porter 78 = .ok (.iload_n 3, 1) := by decide +kernel
theorem dX3_porter_79 : decode cX3_porter 79 = .ok (.if_icmp .le 9, 3) := by decide +kernel
theorem dX3_porter_82 : decode cX3_porter 82 = .ok (.iload 5, 2) := by decide +kernel
theorem dX3_porter_84 : decode cX3_porter 84 = .ok (.istore_n 3, 1) := by decide +kernel
theorem dX3_porter_85 : decode cX3_porter 85 = .ok (.iload 4, 2) := by decide +kernel
theorem dX3_porter_87 : decode cX3_porter 87 = .ok (.istore_n 2, 1) := by decide +kernel
theorem dX3_porter_88 : decode cX3_porter 88 = .ok (.iinc 4 1, 3) := by decide +kernel
theorem dX3_porter_91 : decode cX3_porter 91 = .ok (.goto (-67), 3) := by decide +kernel
theorem dX3_porter_94 : decode cX3_porter 94 = .ok (.iload_n 2, 1) := by decide +kernel
theorem dX3_porter_95 : decode cX3_porter 95 = .ok (.iconst (-1), 1) := by decide +kernel
theorem dX3_porter_96 : decode cX3_porter 96 = .ok (.if_icmp .ne 12, 3) := by decide +kernel
theorem dX3_porter_99 : decode cX3_porter 99 = .ok (.aload_n 0, 1) := by decide +kernel
theorem dX3_porter_100 : decode cX3_porter 100 = .ok (.ldc 154, 2) := by decide +kernel
theorem dX3_porter_102 : decode cX3_porter 102 = .ok (.invokevirtual 52, 3) := by decide +kernel
theorem dX3_porter_105 : decode cX3_porter 105 = .ok (.goto 4, 3) := by decide +kernel
theorem dX3_porter_108 : decode cX3_porter 108 = .ok (.iload_n 2, 1) := by decide +kernel
theorem dX3_porter_109 : decode cX3_porter 109 = .ok (.ireturn, 1) := by decide +kernel
theorem dX3_by_0 : decode cX3_by 0 = .ok (.iload_n 1, 1) := by decide +kernel
theorem dX3_by_1 : decode cX3_by 1 = .ok (.iconst 1, 1) := by decide +kernel
theorem dX3_by_2 : decode cX3_by 2 = .ok (.bipush 40, 2) := by decide +kernel
theorem dX3_by_4 : decode cX3_by 4 = .ok (.invokestatic 47, 3) := by decide +kernel
theorem dX3_by_7 : decode cX3_by 7 = .ok (.ifCond .ne 13, 3) := by decide +kernel
theorem dX3_by_10 : decode cX3_by 10 = .ok (.iload_n 2, 1) := by decide +kernel
theorem dX3_by_11 : decode cX3_by 11 = .ok (.iconst 0, 1) := by decide +kernel
theorem dX3_by_12 : decode cX3_by 12 = .ok (.bipush 8, 2) := by decide +kernel
theorem dX3_by_14 : decode cX3_by 14 = .ok (.invokestatic 47, 3) := by decide +kernel
theorem dX3_by_17 : decode cX3_by 17 = .ok (.ifCond .eq 10, 3) := by decide +kernel
theorem dX3_by_20 : decode cX3_by 20 = .ok (.aload_n 0, 1) := by decide +kernel
theorem dX3_by_21 : decode cX3_by 21 = .ok (.ldc 51, 2) := by decide +kernel
theorem dX3_by_23 : decode cX3_by 23 = .ok (.invokevirtual 52, 3) := by decide +kernel
theorem dX3_by_26 : decode cX3_by 26 = .ok (.ireturn, 1) := by decide +kernel
theorem dX3_by_27 : decode cX3_by 27 = .ok (.iconst 0, 1) := by decide +kernel
theorem dX3_by_28 : decode cX3_by 28 = .ok (.istore_n 3, 1) := by decide +kernel
theorem dX3_by_29 : decode cX3_by 29 = .ok (.iload_n 3, 1) := by decide +kernel
theorem dX3_by_30 : decode cX3_by 30 = .ok (.bipush 8, 2) := by decide +kernel
theorem dX3_by_32 : decode cX3_by 32 = .ok (.if_icmp .gt 49, 3) := by decide +kernel
theorem dX3_by_35 : decode cX3_by 35 = .ok (.aload_n 0, 1) := by decide +kernel
theorem dX3_by_36 : decode cX3_by 36 = .ok (.getfield 16, 3) := by decide +kernel
theorem dX3_by_39 : decode cX3_by 39 = .ok (.aload_n 0, 1) := by decide +kernel
theorem dX3_by_40 : decode cX3_by 40 = .ok (.getfield 10, 3) := by decide +kernel
theorem dX3_by_43 : decode cX3_by 43 = .ok (.invokevirtual 135, 3) := by decide +kernel
theorem dX3_by_46 : decode cX3_by 46 = .ok (.aload_n 0, 1) := by decide +kernel
theorem dX3_by_47 : decode cX3_by 47 = .ok (.getfield 16, 3) := by decide +kernel
theorem dX3_by_50 : decode cX3_by 50 = .ok (.iload_n 3, 1) := by decide +kernel
theorem dX3_by_51 : decode cX3_by 51 = .ok (.putfield 56, 3) := by decide +kernel
theorem dX3_by_54 : decode cX3_by 54 = .ok (.aload_n 0, 1) := by decide +kernel
theorem dX3_by_55 : decode cX3_by 55 = .ok (.getfield 16, 3) := by decide +kernel
theorem dX3_by_58 : decode cX3_by 58 = .ok (.iload_n 1, 1) := by decide +kernel
theorem dX3_by_59 : decode cX3_by 59 = .ok (.invokevirtual 131, 3) := by decide +kernel
theorem dX3_by_62 : decode cX3_by 62 = .ok (.aload_n 0, 1) := by decide +kernel
theorem dX3_by_63 : decode cX3_by 63 = .ok (.getfield 16, 3) := by decide +kernel
theorem dX3_by_66 : decode cX3_by 66 = .ok (.invokevirtual 145, 3) := by decide +kernel
theorem dX3_by_69 : decode cX3_by 69 = .ok (.iload_n 2, 1) := by decide +kernel
theorem dX3_by_70 : decode cX3_by 70 = .ok (.if_icmp .lt 5, 3) := by decide +kernel
theorem dX3_by_73 : decode cX3_by 73 = .ok (.iload_n 3, 1) := by decide +kernel
theorem dX3_by_74 : decode cX3_by 74 = .ok (.ireturn, 1) := by decide +kernel
theorem dX3_by_75 : decode cX3_by 75 = .ok (.iinc 3 1, 3) := by decide +kernel
theorem dX3_by_78 : decode cX3_by 78 = .ok (.goto (-49), 3) := by decide +kernel
theorem dX3_by_81 : decode cX3_by 81 = .ok (.aload_n 0, 1) := by decide +kernel
theorem dX3_by_82 : decode cX3_by 82 = .ok (.ldc 154, 2) := by decide +kernel
theorem dX3_by_84 : decode cX3_by 84 = .ok (.invokevirtual 52, 3) := by decide +kernel
theorem dX3_by_87 : decode cX3_by 87 = .ok (.ireturn, 1) := by decide +kernel
theorem dX3_kind_0 : decode cX3_kind 0 = .ok (.aload_n 0, 1) := by decide +kernel
theorem dX3_kind_1 : decode cX3_kind 1 = .ok (.getfield 10, 3) := by decide +kernel
theorem dX3_kind_4 : decode cX3_kind 4 = .ok (.iload_n 1, 1) := by decide +kernel
theorem dX3_kind_5 : decode cX3_kind 5 = .ok (.invokevirtual 95, 3) := by decide +kernel
theorem dX3_kind_8 : decode cX3_kind 8 = .ok (.ifCond .ne 13, 3) := by decide +kernel
theorem dX3_kind_11 : decode cX3_kind 11 = .ok (.iload_n 2, 1) := by decide +kernel
theorem dX3_kind_12 : decode cX3_kind 12 = .ok (.iconst 1, 1) := by decide +kernel
theorem dX3_kind_13 : decode cX3_kind 13 = .ok (.bipush 60, 2) := by decide +kernel
theorem dX3_kind_15 : decode cX3_kind 15 = .ok (.invokestatic 47, 3) := by decide +kernel
theorem dX3_kind_18 : decode cX3_kind 18 = .ok (.ifCond .eq 10, 3) := by decide +kernel
theorem dX3_kind_21 : decode cX3_kind 21 = .ok (.aload_n 0, 1) := by decide +kernel
theorem dX3_kind_22 : decode cX3_kind 22 = .ok (.ldc 51, 2) := by decide +kernel
theorem dX3_kind_24 : decode cX3_kind 24 = .ok (.invokevirtual 52, 3) := by decide +kernel
theorem dX3_kind_27 : decode cX3_kind 27 = .ok (.ireturn, 1) := by decide +kernel
theorem dX3_kind_28 : decode cX3_kind 28 = .ok (.iconst 0, 1) := by decide +kernel
theorem dX3_kind_29 : decode cX3_kind 29 = .ok (.istore_n 3, 1) := by decide +kernel
theorem dX3_kind_30 : decode cX3_kind 30 = .ok (.iconst (-1), 1) := by decide +kernel
theorem dX3_kind_31 : decode cX3_kind 31 = .ok (.istore 4, 2) := by decide +kernel
theorem dX3_kind_33 : decode cX3_kind 33 = .ok (.iconst 0, 1) := by decide +kernel
theorem dX3_kind_34 : decode cX3_kind 34 = .ok (.istore 5, 2) := by decide +kernel
theorem dX3_kind_36 : decode cX3_kind 36 = .ok (.iload 5, 2) := by decide +kernel
theorem dX3_kind_38 : decode cX3_kind 38 = .ok (.iconst 5, 1) := by decide +kernel
theorem dX3_kind_39 : decode cX3_kind 39 = .ok (.if_icmp .gt 51, 3) := by decide +kernel
theorem dX3_kind_42 : decode cX3_kind 42 = .ok (.aload_n 0, 1) := by decide +kernel
theorem dX3_kind_43 : decode cX3_kind 43 = .ok (.iload_n 1, 1) := by decide +kernel
theorem dX3_kind_44 : decode cX3_kind 44 = .ok (.iconst 0, 1) := by decide +kernel
theorem dX3_kind_45 : decode cX3_kind 45 = .ok (.iload 5, 2) := by decide +kernel
theorem dX3_kind_47 : decode cX3_kind 47 = .ok (.invokevirtual 151, 3) := by decide +kernel
theorem dX3_kind_50 : decode cX3_kind 50 = .ok (.aload_n 0, 1) := by decide +kernel
theorem dX3_kind_51 : decode cX3_kind 51 = .ok (.getfield 16, 3) := by decide +kernel
theorem dX3_kind_54 : decode cX3_kind 54 = .ok (.iload_n 2, 1) := by decide +kernel
theorem dX3_kind_55 : decode cX3_kind 55 = .ok (.invokevirtual 131, 3) := by decide +kernel
theorem dX3_kind_58 : decode cX3_kind 58 = .ok (.aload_n 0, 1) := by decide +kernel
theorem dX3_kind_59 : decode cX3_kind 59 = .ok (.getfield 16, 3) := by decide +kernel
theorem dX3_kind_62 : decode cX3_kind 62 = .ok (.iload_n 1, 1) := by decide +kernel
theorem dX3_kind_63 : decode cX3_kind 63 = .ok (.bipush 8, 2) := by decide +kernel
theorem dX3_kind_65 : decode cX3_kind 65 = .ok (.invokevirtual 108, 3) := by decide +kernel
theorem dX3_kind_68 : decode cX3_kind 68 = .ok (.istore 6, 2) := by decide +kernel
theorem dX3_kind_70 : decode cX3_kind 70 = .ok (.iload 6, 2) := by decide +kernel
theorem dX3_kind_72 : decode cX3_kind 72 = .ok (.iload 4, 2) := by decide +kernel
theorem dX3_kind_74 : decode cX3_kind 74 = .ok (.if_icmp .le 10, 3) := by decide +kernel
theorem dX3_kind_77 : decode cX3_kind 77 = .ok (.iload 6, 2) := by decide +kernel
theorem dX3_kind_79 : decode cX3_kind 79 = .ok (.istore 4, 2) := by decide +kernel
theorem dX3_kind_81 : decode cX3_kind 81 = .ok (.iload 5, 2) := by decide +kernel
theorem dX3_kind_83 : decode cX3_kind 83 = .ok (.istore_n 3, 1) := by decide +kernel
theorem dX3_kind_84 : decode cX3_kind 84 = .ok (.iinc 5 1, 3) := by decide +kernel
theorem dX3_kind_87 : decode cX3_kind 87 = .ok (.goto (-51), 3) := by decide +kernel
theorem dX3_kind_90 : decode cX3_kind 90 = .ok (.iload_n 3, 1) := by decide +kernel
theorem dX3_kind_91 : decode cX3_kind 91 = .ok (.ireturn, 1) := by decide +kernel
theorem dX3_place_0 : decode cX3_place 0 = .ok (.aload_n 0, 1) := by decide +kernel
theorem dX3_place_1 : decode cX3_place 1 = .ok (.getfield 10, 3) := by decide +kernel
theorem dX3_place_4 : decode cX3_place 4 = .ok (.iload_n 1, 1) := by decide +kernel
theorem dX3_place_5 : decode cX3_place 5 = .ok (.invokevirtual 95, 3) := by decide +kernel
theorem dX3_place_8 : decode cX3_place 8 = .ok (.ifCond .ne 13, 3) := by decide +kernel
theorem dX3_place_11 : decode cX3_place 11 = .ok (.iload_n 2, 1) := by decide +kernel
theorem dX3_place_12 : decode cX3_place 12 = .ok (.iconst 1, 1) := by decide +kernel
theorem dX3_place_13 : decode cX3_place 13 = .ok (.bipush 40, 2) := by decide +kernel
theorem dX3_place_15 : decode cX3_place 15 = .ok (.invokestatic 47, 3) := by decide +kernel
theorem dX3_place_18 : decode cX3_place 18 = .ok (.ifCond .eq 10, 3) := by decide +kernel
theorem dX3_place_21 : decode cX3_place 21 = .ok (.aload_n 0, 1) := by decide +kernel
theorem dX3_place_22 : decode cX3_place 22 = .ok (.ldc 51, 2) := by decide +kernel
theorem dX3_place_24 : decode cX3_place 24 = .ok (.invokevirtual 52, 3) := by decide +kernel
theorem dX3_place_27 : decode cX3_place 27 = .ok (.ireturn, 1) := by decide +kernel
theorem dX3_place_28 : decode cX3_place 28 = .ok (.aload_n 0, 1) := by decide +kernel
theorem dX3_place_29 : decode cX3_place 29 = .ok (.iload_n 1, 1) := by decide +kernel
theorem dX3_place_30 : decode cX3_place 30 = .ok (.iconst 2, 1) := by decide +kernel
theorem dX3_place_31 : decode cX3_place 31 = .ok (.bipush 19, 2) := by decide +kernel
theorem dX3_place_33 : decode cX3_place 33 = .ok (.iload_n 2, 1) := by decide +kernel
theorem dX3_place_34 : decode cX3_place 34 = .ok (.invokevirtual 155, 3) := by decide +kernel
theorem dX3_place_37 : decode cX3_place 37 = .ok (.ireturn, 1) := by decide +kernel
theorem dX3_clash_0 : decode cX3_clash 0 = .ok (.iload_n 1, 1) := by decide +kernel
theorem dX3_clash_1 : decode cX3_clash 1 = .ok (.iconst 1, 1) := by decide +kernel
theorem dX3_clash_2 : decode cX3_clash 2 = .ok (.bipush 60, 2) := by decide +kernel
theorem dX3_clash_4 : decode cX3_clash 4 = .ok (.invokestatic 47, 3) := by decide +kernel
theorem dX3_clash_7 : decode cX3_clash 7 = .ok (.ifCond .eq 10, 3) := by decide +kernel
theorem dX3_clash_10 : decode cX3_clash 10 = .ok (.aload_n 0, 1) := by decide +kernel
theorem dX3_clash_11 : decode cX3_clash 11 = .ok (.ldc 51, 2) := by decide +kernel
theorem dX3_clash_13 : decode cX3_clash 13 = .ok (.invokevirtual 52, 3) := by decide +kernel
theorem dX3_clash_16 : decode cX3_clash 16 = .ok (.ireturn, 1) := by decide +kernel
theorem dX3_clash_17 : decode cX3_clash 17 = .ok (.aload_n 0, 1) := by decide +kernel
theorem dX3_clash_18 : decode cX3_clash 18 = .ok (.iload_n 1, 1) := by decide +kernel
theorem dX3_clash_19 : decode cX3_clash 19 = .ok (.invokevirtual 159, 3) := by decide +kernel
theorem dX3_clash_22 : decode cX3_clash 22 = .ok (.iconst 0, 1) := by decide +kernel
theorem dX3_clash_23 : decode cX3_clash 23 = .ok (.istore_n 2, 1) := by decide +kernel
theorem dX3_clash_24 : decode cX3_clash 24 = .ok (.iload_n 2, 1) := by decide +kernel
theorem dX3_clash_25 : decode cX3_clash 25 = .ok (.aload_n 0, 1) := by decide +kernel
theorem dX3_clash_26 : decode cX3_clash 26 = .ok (.getfield 10, 3) := by decide +kernel
theorem dX3_clash_29 : decode cX3_clash 29 = .ok (.getfield 148, 3) := by decide +kernel
theorem dX3_clash_32 : decode cX3_clash 32 = .ok (.if_icmp .ge 46, 3) := by decide +kernel
theorem dX3_clash_35 : decode cX3_clash 35 = .ok (.iload_n 2, 1) := by decide +kernel
theorem dX3_clash_36 : decode cX3_clash 36 = .ok (.iconst 1, 1) := by decide +kernel
theorem dX3_clash_37 : decode cX3_clash 37 = .ok (.iadd, 1) := by decide +kernel
theorem dX3_clash_38 : decode cX3_clash 38 = .ok (.istore_n 3, 1) := by decide +kernel
theorem dX3_clash_39 : decode cX3_clash 39 = .ok (.iload_n 3, 1) := by decide +kernel
theorem dX3_clash_40 : decode cX3_clash 40 = .ok (.aload_n 0, 1) := by decide +kernel
theorem dX3_clash_41 : decode cX3_clash 41 = .ok (.getfield 10, 3) := by decide +kernel
theorem dX3_clash_44 : decode cX3_clash 44 = .ok (.getfield 148, 3) := by decide +kernel
theorem dX3_clash_47 : decode cX3_clash 47 = .ok (.if_icmp .ge 25, 3) := by decide +kernel
theorem dX3_clash_50 : decode cX3_clash 50 = .ok (.aload_n 0, 1) := by decide +kernel
theorem dX3_clash_51 : decode cX3_clash 51 = .ok (.iload_n 2, 1) := by decide +kernel
theorem dX3_clash_52 : decode cX3_clash 52 = .ok (.iload_n 3, 1) := by decide +kernel
theorem dX3_clash_53 : decode cX3_clash 53 = .ok (.invokevirtual 162, 3) := by decide +kernel
theorem dX3_clash_56 : decode cX3_clash 56 = .ok (.ifCond .eq 10, 3) := by decide +kernel
theorem dX3_clash_59 : decode cX3_clash 59 = .ok (.bipush 10, 2) := by decide +kernel
theorem dX3_clash_61 : decode cX3_clash 61 = .ok (.iload_n 2, 1) := by decide +kernel
theorem dX3_clash_62 : decode cX3_clash 62 = .ok (.imul, 1) := by decide +kernel
theorem dX3_clash_63 : decode cX3_clash 63 = .ok (.iload_n 3, 1) := by decide +kernel
theorem dX3_clash_64 : decode cX3_clash 64 = .ok (.iadd, 1) := by decide +kernel
theorem dX3_clash_65 : decode cX3_clash 65 = .ok (.ireturn, 1) := by decide +kernel
theorem dX3_clash_66 : decode cX3_clash 66 = .ok (.iinc 3 1, 3) := by decide +kernel
theorem dX3_clash_69 : decode cX3_clash 69 = .ok (.goto (-30), 3) := by decide +kernel
theorem dX3_clash_72 : decode cX3_clash 72 = .ok (.iinc 2 1, 3) := by decide +kernel
theorem dX3_clash_75 : decode cX3_clash 75 = .ok (.goto (-51), 3) := by decide +kernel
theorem dX3_clash_78 : decode cX3_clash 78 = .ok (.aload_n 0, 1) := by decide +kernel
theorem dX3_clash_79 : decode cX3_clash 79 = .ok (.ldc 154, 2) := by decide +kernel
theorem dX3_clash_81 : decode cX3_clash 81 = .ok (.invokevirtual 52, 3) := by decide +kernel
theorem dX3_clash_84 : decode cX3_clash 84 = .ok (.ireturn, 1) := by decide +kernel
theorem dX3_want_0 : decode cX3_want 0 = .ok (.aload_n 0, 1) := by decide +kernel
theorem dX3_want_1 : decode cX3_want 1 = .ok (.getfield 10, 3) := by decide +kernel
theorem dX3_want_4 : decode cX3_want 4 = .ok (.iload_n 1, 1) := by decide +kernel
theorem dX3_want_5 : decode cX3_want 5 = .ok (.invokevirtual 95, 3) := by decide +kernel
theorem dX3_want_8 : decode cX3_want 8 = .ok (.ifCond .ne 13, 3) := by decide +kernel
theorem dX3_want_11 : decode cX3_want 11 = .ok (.iload_n 2, 1) := by decide +kernel
theorem dX3_want_12 : decode cX3_want 12 = .ok (.iconst 1, 1) := by decide +kernel
theorem dX3_want_13 : decode cX3_want 13 = .ok (.bipush 40, 2) := by decide +kernel
theorem dX3_want_15 : decode cX3_want 15 = .ok (.invokestatic 47, 3) := by decide +kernel
theorem dX3_want_18 : decode cX3_want 18 = .ok (.ifCond .eq 10, 3) := by decide +kernel
theorem dX3_want_21 : decode cX3_want 21 = .ok (.aload_n 0, 1) := by decide +kernel
theorem dX3_want_22 : decode cX3_want 22 = .ok (.ldc 51, 2) := by decide +kernel
theorem dX3_want_24 : decode cX3_want 24 = .ok (.invokevirtual 52, 3) := by decide +kernel
theorem dX3_want_27 : decode cX3_want 27 = .ok (.ireturn, 1) := by decide +kernel
theorem dX3_want_28 : decode cX3_want 28 = .ok (.aload_n 0, 1) := by decide +kernel
theorem dX3_want_29 : decode cX3_want 29 = .ok (.iload_n 1, 1) := by decide +kernel
theorem dX3_want_30 : decode cX3_want 30 = .ok (.iconst 5, 1) := by decide +kernel
theorem dX3_want_31 : decode cX3_want 31 = .ok (.iconst 4, 1) := by decide +kernel
theorem dX3_want_32 : decode cX3_want 32 = .ok (.iload_n 2, 1) := by decide +kernel
theorem dX3_want_33 : decode cX3_want 33 = .ok (.invokevirtual 155, 3) := by decide +kernel
theorem dX3_want_36 : decode cX3_want 36 = .ok (.ireturn, 1) := by decide +kernel
theorem dX3_nose_0 : decode cX3_nose 0 = .ok (.aload_n 0, 1) := by decide +kernel
theorem dX3_nose_1 : decode cX3_nose 1 = .ok (.getfield 10, 3) := by decide +kernel
theorem dX3_nose_4 : decode cX3_nose 4 = .ok (.iload_n 1, 1) := by decide +kernel
theorem dX3_nose_5 : decode cX3_nose 5 = .ok (.invokevirtual 95, 3) := by decide +kernel
theorem dX3_nose_8 : decode cX3_nose 8 = .ok (.ifCond .ne 13, 3) := by decide +kernel
theorem dX3_nose_11 : decode cX3_nose 11 = .ok (.iload_n 2, 1) := by decide +kernel
theorem dX3_nose_12 : decode cX3_nose 12 = .ok (.iconst 0, 1) := by decide +kernel
theorem dX3_nose_13 : decode cX3_nose 13 = .ok (.bipush 40, 2) := by decide +kernel
theorem dX3_nose_15 : decode cX3_nose 15 = .ok (.invokestatic 47, 3) := by decide +kernel
theorem dX3_nose_18 : decode cX3_nose 18 = .ok (.ifCond .eq 10, 3) := by decide +kernel
theorem dX3_nose_21 : decode cX3_nose 21 = .ok (.aload_n 0, 1) := by decide +kernel
theorem dX3_nose_22 : decode cX3_nose 22 = .ok (.ldc 51, 2) := by decide +kernel
theorem dX3_nose_24 : decode cX3_nose 24 = .ok (.invokevirtual 52, 3) := by decide +kernel
theorem dX3_nose_27 : decode cX3_nose 27 = .ok (.ireturn, 1) := by decide +kernel
theorem dX3_nose_28 : decode cX3_nose 28 = .ok (.bipush 99, 2) := by decide +kernel
theorem dX3_nose_30 : decode cX3_nose 30 = .ok (.istore_n 3, 1) := by decide +kernel
theorem dX3_nose_31 : decode cX3_nose 31 = .ok (.iload_n 3, 1) := by decide +kernel
theorem dX3_nose_32 : decode cX3_nose 32 = .ok (.ifCond .lt 40, 3) := by decide +kernel
theorem dX3_nose_35 : decode cX3_nose 35 = .ok (.aload_n 0, 1) := by decide +kernel
theorem dX3_nose_36 : decode cX3_nose 36 = .ok (.iload_n 1, 1) := by decide +kernel
theorem dX3_nose_37 : decode cX3_nose 37 = .ok (.iconst 3, 1) := by decide +kernel
theorem dX3_nose_38 : decode cX3_nose 38 = .ok (.iload_n 3, 1) := by decide +kernel
theorem dX3_nose_39 : decode cX3_nose 39 = .ok (.invokevirtual 151, 3) := by decide +kernel
theorem dX3_nose_42 : decode cX3_nose 42 = .ok (.aload_n 0, 1) := by decide +kernel
theorem dX3_nose_43 : decode cX3_nose 43 = .ok (.getfield 16, 3) := by decide +kernel
theorem dX3_nose_46 : decode cX3_nose 46 = .ok (.iload_n 2, 1) := by decide +kernel
theorem dX3_nose_47 : decode cX3_nose 47 = .ok (.invokevirtual 131, 3) := by decide +kernel
theorem dX3_nose_50 : decode cX3_nose 50 = .ok (.aload_n 0, 1) := by decide +kernel
theorem dX3_nose_51 : decode cX3_nose 51 = .ok (.getfield 16, 3) := by decide +kernel
theorem dX3_nose_54 : decode cX3_nose 54 = .ok (.iload_n 1, 1) := by decide +kernel
theorem dX3_nose_55 : decode cX3_nose 55 = .ok (.iconst 3, 1) := by decide +kernel
theorem dX3_nose_56 : decode cX3_nose 56 = .ok (.invokevirtual 108, 3) := by decide +kernel
theorem dX3_nose_59 : decode cX3_nose 59 = .ok (.bipush 10, 2) := by decide +kernel
theorem dX3_nose_61 : decode cX3_nose 61 = .ok (.if_icmp .gt 5, 3) := by decide +kernel
theorem dX3_nose_64 : decode cX3_nose 64 = .ok (.iload_n 3, 1) := by decide +kernel
theorem dX3_nose_65 : decode cX3_nose 65 = .ok (.ireturn, 1) := by decide +kernel
theorem dX3_nose_66 : decode cX3_nose 66 = .ok (.iinc 3 (-1), 3) := by decide +kernel
theorem dX3_nose_69 : decode cX3_nose 69 = .ok (.goto (-38), 3) := by decide +kernel
theorem dX3_nose_72 : decode cX3_nose 72 = .ok (.aload_n 0, 1) := by decide +kernel
theorem dX3_nose_73 : decode cX3_nose 73 = .ok (.ldc 154, 2) := by decide +kernel
theorem dX3_nose_75 : decode cX3_nose 75 = .ok (.invokevirtual 52, 3) := by decide +kernel
theorem dX3_nose_78 : decode cX3_nose 78 = .ok (.ireturn, 1) := by decide +kernel
theorem dX3_feed_0 : decode cX3_feed 0 = .ok (.iload_n 2, 1) := by decide +kernel
theorem dX3_feed_1 : decode cX3_feed 1 = .ok (.iconst 1, 1) := by decide +kernel
theorem dX3_feed_2 : decode cX3_feed 2 = .ok (.iconst 4, 1) := by decide +kernel
theorem dX3_feed_3 : decode cX3_feed 3 = .ok (.invokestatic 47, 3) := by decide +kernel
theorem dX3_feed_6 : decode cX3_feed 6 = .ok (.ifCond .eq 10, 3) := by decide +kernel
theorem dX3_feed_9 : decode cX3_feed 9 = .ok (.aload_n 0, 1) := by decide +kernel
theorem dX3_feed_10 : decode cX3_feed 10 = .ok (.ldc 51, 2) := by decide +kernel
theorem dX3_feed_12 : decode cX3_feed 12 = .ok (.invokevirtual 52, 3) := by decide +kernel
theorem dX3_feed_15 : decode cX3_feed 15 = .ok (.ireturn, 1) := by decide +kernel
theorem dX3_feed_16 : decode cX3_feed 16 = .ok (.aload_n 0, 1) := by decide +kernel
theorem dX3_feed_17 : decode cX3_feed 17 = .ok (.getfield 29, 3) := by decide +kernel
theorem dX3_feed_20 : decode cX3_feed 20 = .ok (.getfield 165, 3) := by decide +kernel
theorem dX3_feed_23 : decode cX3_feed 23 = .ok (.bipush 120, 2) := by decide +kernel
theorem dX3_feed_25 : decode cX3_feed 25 = .ok (.iload_n 2, 1) := by decide +kernel
theorem dX3_feed_26 : decode cX3_feed 26 = .ok (.isub, 1) := by decide +kernel
theorem dX3_feed_27 : decode cX3_feed 27 = .ok (.if_icmp .le 10, 3) := by decide +kernel
theorem dX3_feed_30 : decode cX3_feed 30 = .ok (.aload_n 0, 1) := by decide +kernel
theorem dX3_feed_31 : decode cX3_feed 31 = .ok (.ldc 90, 2) := by decide +kernel
theorem dX3_feed_33 : decode cX3_feed 33 = .ok (.invokevirtual 52, 3) := by decide +kernel
theorem dX3_feed_36 : decode cX3_feed 36 = .ok (.ireturn, 1) := by decide +kernel
theorem dX3_feed_37 : decode cX3_feed 37 = .ok (.iload_n 2, 1) := by decide +kernel
theorem dX3_feed_38 : decode cX3_feed 38 = .ok (.iconst 1, 1) := by decide +kernel
theorem dX3_feed_39 : decode cX3_feed 39 = .ok (.isub, 1) := by decide +kernel
theorem dX3_feed_40 : decode cX3_feed 40 = .ok (.istore_n 3, 1) := by decide +kernel
theorem dX3_feed_41 : decode cX3_feed 41 = .ok (.iload_n 3, 1) := by decide +kernel
theorem dX3_feed_42 : decode cX3_feed 42 = .ok (.ifCond .lt 26, 3) := by decide +kernel
theorem dX3_feed_45 : decode cX3_feed 45 = .ok (.aload_n 0, 1) := by decide +kernel
theorem dX3_feed_46 : decode cX3_feed 46 = .ok (.getfield 29, 3) := by decide +kernel
theorem dX3_feed_49 : decode cX3_feed 49 = .ok (.iload_n 1, 1) := by decide +kernel
theorem dX3_feed_50 : decode cX3_feed 50 = .ok (.bipush 8, 2) := by decide +kernel
theorem dX3_feed_52 : decode cX3_feed 52 = .ok (.iload_n 3, 1) := by decide +kernel
theorem dX3_feed_53 : decode cX3_feed 53 = .ok (.imul, 1) := by decide +kernel
theorem dX3_feed_54 : decode cX3_feed 54 = .ok (.iushr, 1) := by decide +kernel
theorem dX3_feed_55 : decode cX3_feed 55 = .ok (.sipush 255, 3) := by decide +kernel
theorem dX3_feed_58 : decode cX3_feed 58 = .ok (.iand, 1) := by decide +kernel
theorem dX3_feed_59 : decode cX3_feed 59 = .ok (.invokevirtual 168, 3) := by decide +kernel
theorem dX3_feed_62 : decode cX3_feed 62 = .ok (.iinc 3 (-1), 3) := by decide +kernel
theorem dX3_feed_65 : decode cX3_feed 65 = .ok (.goto (-24), 3) := by decide +kernel
theorem dX3_feed_68 : decode cX3_feed 68 = .ok (.aload_n 0, 1) := by decide +kernel
theorem dX3_feed_69 : decode cX3_feed 69 = .ok (.getfield 29, 3) := by decide +kernel
theorem dX3_feed_72 : decode cX3_feed 72 = .ok (.getfield 165, 3) := by decide +kernel
theorem dX3_feed_75 : decode cX3_feed 75 = .ok (.ireturn, 1) := by decide +kernel
theorem dX3_wipe_0 : decode cX3_wipe 0 = .ok (.aload_n 0, 1) := by decide +kernel
theorem dX3_wipe_1 : decode cX3_wipe 1 = .ok (.getfield 29, 3) := by decide +kernel
theorem dX3_wipe_4 : decode cX3_wipe 4 = .ok (.getfield 165, 3) := by decide +kernel
theorem dX3_wipe_7 : decode cX3_wipe 7 = .ok (.istore_n 1, 1) := by decide +kernel
theorem dX3_wipe_8 : decode cX3_wipe 8 = .ok (.aload_n 0, 1) := by decide +kernel
theorem dX3_wipe_9 : decode cX3_wipe 9 = .ok (.getfield 29, 3) := by decide +kernel
theorem dX3_wipe_12 : decode cX3_wipe 12 = .ok (.iconst 0, 1) := by decide +kernel
theorem dX3_wipe_13 : decode cX3_wipe 13 = .ok (.putfield 165, 3) := by decide +kernel
theorem dX3_wipe_16 : decode cX3_wipe 16 = .ok (.iload_n 1, 1) := by decide +kernel
theorem dX3_wipe_17 : decode cX3_wipe 17 = .ok (.ireturn, 1) := by decide +kernel
theorem dX3_night_0 : decode cX3_night 0 = .ok (.aload_n 0, 1) := by decide +kernel
theorem dX3_night_1 : decode cX3_night 1 = .ok (.getfield 16, 3) := by decide +kernel
theorem dX3_night_4 : decode cX3_night 4 = .ok (.aload_n 0, 1) := by decide +kernel
theorem dX3_night_5 : decode cX3_night 5 = .ok (.getfield 10, 3) := by decide +kernel
theorem dX3_night_8 : decode cX3_night 8 = .ok (.invokevirtual 135, 3) := by decide +kernel
theorem dX3_night_11 : decode cX3_night 11 = .ok (.aload_n 0, 1) := by decide +kernel
theorem dX3_night_12 : decode cX3_night 12 = .ok (.getfield 29, 3) := by decide +kernel
theorem dX3_night_15 : decode cX3_night 15 = .ok (.aload_n 0, 1) := by decide +kernel
theorem dX3_night_16 : decode cX3_night 16 = .ok (.getfield 16, 3) := by decide +kernel
theorem dX3_night_19 : decode cX3_night 19 = .ok (.invokevirtual 171, 3) := by decide +kernel
theorem dX3_night_22 : decode cX3_night 22 = .ok (.istore_n 1, 1) := by decide +kernel
theorem dX3_night_23 : decode cX3_night 23 = .ok (.aload_n 0, 1) := by decide +kernel
theorem dX3_night_24 : decode cX3_night 24 = .ok (.getfield 29, 3) := by decide +kernel
theorem dX3_night_27 : decode cX3_night 27 = .ok (.iconst 0, 1) := by decide +kernel
theorem dX3_night_28 : decode cX3_night 28 = .ok (.putfield 165, 3) := by decide +kernel
theorem dX3_night_31 : decode cX3_night 31 = .ok (.iload_n 1, 1) := by decide +kernel
theorem dX3_night_32 : decode cX3_night 32 = .ok (.ifCond .lt 14, 3) := by decide +kernel
theorem dX3_night_35 : decode cX3_night 35 = .ok (.aload_n 0, 1) := by decide +kernel
theorem dX3_night_36 : decode cX3_night 36 = .ok (.getfield 10, 3) := by decide +kernel
theorem dX3_night_39 : decode cX3_night 39 = .ok (.aload_n 0, 1) := by decide +kernel
theorem dX3_night_40 : decode cX3_night 40 = .ok (.getfield 16, 3) := by decide +kernel
theorem dX3_night_43 : decode cX3_night 43 = .ok (.invokevirtual 135, 3) := by decide +kernel
theorem dX3_night_46 : decode cX3_night 46 = .ok (.iload_n 1, 1) := by decide +kernel
theorem dX3_night_47 : decode cX3_night 47 = .ok (.ireturn, 1) := by decide +kernel
theorem dX3_sheet_0 : decode cX3_sheet 0 = .ok (.aload_n 0, 1) := by decide +kernel
theorem dX3_sheet_1 : decode cX3_sheet 1 = .ok (.iload_n 1, 1) := by decide +kernel
theorem dX3_sheet_2 : decode cX3_sheet 2 = .ok (.invokevirtual 175, 3) := by decide +kernel
theorem dX3_sheet_5 : decode cX3_sheet 5 = .ok (.astore 4, 2) := by decide +kernel
theorem dX3_sheet_7 : decode cX3_sheet 7 = .ok (.aload 4, 2) := by decide +kernel
theorem dX3_sheet_9 : decode cX3_sheet 9 = .ok (.ifnull 25, 3) := by decide +kernel
theorem dX3_sheet_12 : decode cX3_sheet 12 = .ok (.iload_n 2, 1) := by decide +kernel
theorem dX3_sheet_13 : decode cX3_sheet 13 = .ok (.ifCond .eq 28, 3) := by decide +kernel
theorem dX3_sheet_16 : decode cX3_sheet 16 = .ok (.iload_n 2, 1) := by decide +kernel
theorem dX3_sheet_17 : decode cX3_sheet 17 = .ok (.bipush 8, 2) := by decide +kernel
theorem dX3_sheet_19 : decode cX3_sheet 19 = .ok (.if_icmp .eq 22, 3) := by decide +kernel
theorem dX3_sheet_22 : decode cX3_sheet 22 = .ok (.iload_n 2, 1) := by decide +kernel
theorem dX3_sheet_23 : decode cX3_sheet 23 = .ok (.bipush 16, 2) := by decide +kernel
theorem dX3_sheet_25 : decode cX3_sheet 25 = .ok (.if_icmp .eq 16, 3) := by decide +kernel
theorem dX3_sheet_28 : decode cX3_sheet 28 = .ok (.iload_n 2, 1) := by decide +kernel
theorem dX3_sheet_29 : decode cX3_sheet 29 = .ok (.bipush 64, 2) := by decide +kernel
theorem dX3_sheet_31 : decode cX3_sheet 31 = .ok (.if_icmp .eq 10, 3) := by decide +kernel
theorem dX3_sheet_34 : decode cX3_sheet 34 = .ok (.aload_n 0, 1) := by decide +kernel
theorem dX3_sheet_35 : decode cX3_sheet 35 = .ok (.ldc 51, 2) := by decide +kernel
theorem dX3_sheet_37 : decode cX3_sheet 37 = .ok (.invokevirtual 52, 3) := by decide +kernel
theorem dX3_sheet_40 : decode cX3_sheet 40 = .ok (.ireturn, 1) := by decide +kernel
theorem dX3_sheet_41 : decode cX3_sheet 41 = .ok (.iload_n 3, 1) := by decide +kernel
theorem dX3_sheet_42 : decode cX3_sheet 42 = .ok (.ifCond .ge 10, 3) := by decide +kernel
theorem dX3_sheet_45 : decode cX3_sheet 45 = .ok (.aload_n 0, 1) := by decide +kernel
theorem dX3_sheet_46 : decode cX3_sheet 46 = .ok (.ldc 179, 2) := by decide +kernel
theorem dX3_sheet_48 : decode cX3_sheet 48 = .ok (.invokevirtual 52, 3) := by decide +kernel
theorem dX3_sheet_51 : decode cX3_sheet 51 = .ok (.ireturn, 1) := by decide +kernel
theorem dX3_sheet_52 : decode cX3_sheet 52 = .ok (.iload_n 3, 1) := by decide +kernel
theorem dX3_sheet_53 : decode cX3_sheet 53 = .ok (.bipush 40, 2) := by decide +kernel
theorem dX3_sheet_55 : decode cX3_sheet 55 = .ok (.if_icmp .le 10, 3) := by decide +kernel
theorem dX3_sheet_58 : decode cX3_sheet 58 = .ok (.aload_n 0, 1) := by decide +kernel
theorem dX3_sheet_59 : decode cX3_sheet 59 = .ok (.ldc 51, 2) := by decide +kernel
theorem dX3_sheet_61 : decode cX3_sheet 61 = .ok (.invokevirtual 52, 3) := by decide +kernel
theorem dX3_sheet_64 : decode cX3_sheet 64 = .ok (.ireturn, 1) := by decide +kernel
theorem dX3_sheet_65 : decode cX3_sheet 65 = .ok (.aload 4, 2) := by decide +kernel
theorem dX3_sheet_67 : decode cX3_sheet 67 = .ok (.iload_n 2, 1) := by decide +kernel
theorem dX3_sheet_68 : decode cX3_sheet 68 = .ok (.iload_n 3, 1) := by decide +kernel
theorem dX3_sheet_69 : decode cX3_sheet 69 = .ok (.invokevirtual 180, 3) := by decide +kernel
theorem dX3_sheet_72 : decode cX3_sheet 72 = .ok (.aload 4, 2) := by decide +kernel
theorem dX3_sheet_74 : decode cX3_sheet 74 = .ok (.getfield 184, 3) := by decide +kernel
theorem dX3_sheet_77 : decode cX3_sheet 77 = .ok (.ireturn, 1) := by decide +kernel
theorem dX3_write_0 : decode cX3_write 0 = .ok (.aload_n 0, 1) := by decide +kernel
theorem dX3_write_1 : decode cX3_write 1 = .ok (.iload_n 1, 1) := by decide +kernel
theorem dX3_write_2 : decode cX3_write 2 = .ok (.invokevirtual 175, 3) := by decide +kernel
theorem dX3_write_5 : decode cX3_write 5 = .ok (.astore 5, 2) := by decide +kernel
theorem dX3_write_7 : decode cX3_write 7 = .ok (.aload 5, 2) := by decide +kernel
theorem dX3_write_9 : decode cX3_write 9 = .ok (.ifnonnull 11, 3) := by decide +kernel
theorem dX3_write_12 : decode cX3_write 12 = .ok (.aload_n 0, 1) := by decide +kernel
theorem dX3_write_13 : decode cX3_write 13 = .ok (.ldc 51, 2) := by decide +kernel
theorem dX3_write_15 : decode cX3_write 15 = .ok (.invokevirtual 52, 3) := by decide +kernel
theorem dX3_write_18 : decode cX3_write 18 = .ok (.i2l, 1) := by decide +kernel
theorem dX3_write_19 : decode cX3_write 19 = .ok (.lreturn, 1) := by decide +kernel
theorem dX3_write_20 : decode cX3_write 20 = .ok (.aload 5, 2) := by decide +kernel
theorem dX3_write_22 : decode cX3_write 22 = .ok (.invokevirtual 185, 3) := by decide +kernel
theorem dX3_write_25 : decode cX3_write 25 = .ok (.ifCond .eq 11, 3) := by decide +kernel
theorem dX3_write_28 : decode cX3_write 28 = .ok (.aload_n 0, 1) := by decide +kernel
theorem dX3_write_29 : decode cX3_write 29 = .ok (.ldc 188, 2) := by decide +kernel
theorem dX3_write_31 : decode cX3_write 31 = .ok (.invokevirtual 52, 3) := by decide +kernel
theorem dX3_write_34 : decode cX3_write 34 = .ok (.i2l, 1) := by decide +kernel
theorem dX3_write_35 : decode cX3_write 35 = .ok (.lreturn, 1) := by decide +kernel
theorem dX3_write_36 : decode cX3_write 36 = .ok (.iload_n 2, 1) := by decide +kernel
theorem dX3_write_37 : decode cX3_write 37 = .ok (.iconst 0, 1) := by decide +kernel
theorem dX3_write_38 : decode cX3_write 38 = .ok (.aload 5, 2) := by decide +kernel
theorem dX3_write_40 : decode cX3_write 40 = .ok (.getfield 184, 3) := by decide +kernel
theorem dX3_write_43 : decode cX3_write 43 = .ok (.iconst 1, 1) := by decide +kernel
theorem dX3_write_44 : decode cX3_write 44 = .ok (.isub, 1) := by decide +kernel
theorem dX3_write_45 : decode cX3_write 45 = .ok (.invokestatic 47, 3) := by decide +kernel
theorem dX3_write_48 : decode cX3_write 48 = .ok (.ifCond .eq 11, 3) := by decide +kernel
theorem dX3_write_51 : decode cX3_write 51 = .ok (.aload_n 0, 1) := by decide +kernel
theorem dX3_write_52 : decode cX3_write 52 = .ok (.ldc 51, 2) := by decide +kernel
theorem dX3_write_54 : decode cX3_write 54 = .ok (.invokevirtual 52, 3) := by decide +kernel
theorem dX3_write_57 : decode cX3_write 57 = .ok (.i2l, 1) := by decide +kernel
theorem dX3_write_58 : decode cX3_write 58 = .ok (.lreturn, 1) := by decide +kernel
theorem dX3_write_59 : decode cX3_write 59 = .ok (.aload 5, 2) := by decide +kernel
theorem dX3_write_61 : decode cX3_write 61 = .ok (.iload_n 2, 1) := by decide +kernel
theorem dX3_write_62 : decode cX3_write 62 = .ok (.invokevirtual 189, 3) := by decide +kernel
theorem dX3_write_65 : decode cX3_write 65 = .ok (.lstore 6, 2) := by decide +kernel
theorem dX3_write_67 : decode cX3_write 67 = .ok (.aload 5, 2) := by decide +kernel
theorem dX3_write_69 : decode cX3_write 69 = .ok (.iload_n 2, 1) := by decide +kernel
theorem dX3_write_70 : decode cX3_write 70 = .ok (.lload_n 3, 1) := by decide +kernel
theorem dX3_write_71 : decode cX3_write 71 = .ok (.invokevirtual 192, 3) := by decide +kernel
theorem dX3_write_74 : decode cX3_write 74 = .ok (.lload 6, 2) := by decide +kernel
theorem dX3_write_76 : decode cX3_write 76 = .ok (.lreturn, 1) := by decide +kernel
theorem dX3_copy_0 : decode cX3_copy 0 = .ok (.aload_n 0, 1) := by decide +kernel
theorem dX3_copy_1 : decode cX3_copy 1 = .ok (.iload_n 1, 1) := by decide +kernel
theorem dX3_copy_2 : decode cX3_copy 2 = .ok (.invokevirtual 175, 3) := by decide +kernel
theorem dX3_copy_5 : decode cX3_copy 5 = .ok (.astore 6, 2) := by decide +kernel
theorem dX3_copy_7 : decode cX3_copy 7 = .ok (.aload_n 0, 1) := by decide +kernel
theorem dX3_copy_8 : decode cX3_copy 8 = .ok (.iload_n 3, 1) := by decide +kernel
theorem dX3_copy_9 : decode cX3_copy 9 = .ok (.invokevirtual 175, 3) := by decide +kernel
theorem dX3_copy_12 : decode cX3_copy 12 = .ok (.astore 7, 2) := by decide +kernel
theorem dX3_copy_14 : decode cX3_copy 14 = .ok (.aload 6, 2) := by decide +kernel
theorem dX3_copy_16 : decode cX3_copy 16 = .ok (.ifnull 8, 3) := by decide +kernel
theorem dX3_copy_19 : decode cX3_copy 19 = .ok (.aload 7, 2) := by decide +kernel
theorem dX3_copy_21 : decode cX3_copy 21 = .ok (.ifnonnull 10, 3) := by decide +kernel
theorem dX3_copy_24 : decode cX3_copy 24 = .ok (.aload_n 0, 1) := by decide +kernel
theorem dX3_copy_25 : decode cX3_copy 25 = .ok (.ldc 51, 2) := by decide +kernel
theorem dX3_copy_27 : decode cX3_copy 27 = .ok (.invokevirtual 52, 3) := by decide +kernel
theorem dX3_copy_30 : decode cX3_copy 30 = .ok (.ireturn, 1) := by decide +kernel
theorem dX3_copy_31 : decode cX3_copy 31 = .ok (.aload 6, 2) := by decide +kernel
theorem dX3_copy_33 : decode cX3_copy 33 = .ok (.invokevirtual 185, 3) := by decide +kernel
theorem dX3_copy_36 : decode cX3_copy 36 = .ok (.ifCond .ne 11, 3) := by decide +kernel
theorem dX3_copy_39 : decode cX3_copy 39 = .ok (.aload 7, 2) := by decide +kernel
theorem dX3_copy_41 : decode cX3_copy 41 = .ok (.invokevirtual 185, 3) := by decide +kernel
theorem dX3_copy_44 : decode cX3_copy 44 = .ok (.ifCond .eq 10, 3) := by decide +kernel
theorem dX3_copy_47 : decode cX3_copy 47 = .ok (.aload_n 0, 1) := by decide +kernel
theorem dX3_copy_48 : decode cX3_copy 48 = .ok (.ldc 188, 2) := by decide +kernel
theorem dX3_copy_50 : decode cX3_copy 50 = .ok (.invokevirtual 52, 3) := by decide +kernel
theorem dX3_copy_53 : decode cX3_copy 53 = .ok (.ireturn, 1) := by decide +kernel
theorem dX3_copy_54 : decode cX3_copy 54 = .ok (.aload 6, 2) := by decide +kernel
theorem dX3_copy_56 : decode cX3_copy 56 = .ok (.getfield 195, 3) := by decide +kernel
theorem dX3_copy_59 : decode cX3_copy 59 = .ok (.aload 7, 2) := by decide +kernel
theorem dX3_copy_61 : decode cX3_copy 61 = .ok (.getfield 195, 3) := by decide +kernel
theorem dX3_copy_64 : decode cX3_copy 64 = .ok (.if_icmp .eq 10, 3) := by decide +kernel
theorem dX3_copy_67 : decode cX3_copy 67 = .ok (.aload_n 0, 1) := by decide +kernel
theorem dX3_copy_68 : decode cX3_copy 68 = .ok (.ldc 128, 2) := by decide +kernel
theorem dX3_copy_70 : decode cX3_copy 70 = .ok (.invokevirtual 52, 3) := by decide +kernel
theorem dX3_copy_73 : decode cX3_copy 73 = .ok (.ireturn, 1) := by decide +kernel
theorem dX3_copy_74 : decode cX3_copy 74 = .ok (.aload 6, 2) := by decide +kernel
theorem dX3_copy_76 : decode cX3_copy 76 = .ok (.iload_n 2, 1) := by decide +kernel
theorem dX3_copy_77 : decode cX3_copy 77 = .ok (.iload 5, 2) := by decide +kernel
theorem dX3_copy_79 : decode cX3_copy 79 = .ok (.invokevirtual 198, 3) := by decide +kernel
theorem dX3_copy_82 : decode cX3_copy 82 = .ok (.ifCond .ne 15, 3) := by decide +kernel
theorem dX3_copy_85 : decode cX3_copy 85 = .ok (.aload 7, 2) := by decide +kernel
theorem dX3_copy_87 : decode cX3_copy 87 = .ok (.iload 4, 2) := by decide +kernel
theorem dX3_copy_89 : decode cX3_copy 89 = .ok (.iload 5, 2) := by decide +kernel
theorem dX3_copy_91 : decode cX3_copy 91 = .ok (.invokevirtual 198, 3) := by decide +kernel
theorem dX3_copy_94 : decode cX3_copy 94 = .ok (.ifCond .eq 10, 3) := by decide +kernel
theorem dX3_copy_97 : decode cX3_copy 97 = .ok (.aload_n 0, 1) := by decide +kernel
theorem dX3_copy_98 : decode cX3_copy 98 = .ok (.ldc 51, 2) := by decide +kernel
theorem dX3_copy_100 : decode cX3_copy 100 = .ok (.invokevirtual 52, 3) := by decide +kernel
theorem dX3_copy_103 : decode cX3_copy 103 = .ok (.ireturn, 1) := by decide +kernel
theorem dX3_copy_104 : decode cX3_copy 104 = .ok (.aload 6, 2) := by decide +kernel
theorem dX3_copy_106 : decode cX3_copy 106 = .ok (.getfield 200, 3) := by decide +kernel
theorem dX3_copy_109 : decode cX3_copy 109 = .ok (.iload_n 2, 1) := by decide +kernel
theorem dX3_copy_110 : decode cX3_copy 110 = .ok (.aload 7, 2) := by decide +kernel
theorem dX3_copy_112 : decode cX3_copy 112 = .ok (.getfield 200, 3) := by decide +kernel
theorem dX3_copy_115 : decode cX3_copy 115 = .ok (.iload 4, 2) := by decide +kernel
theorem dX3_copy_117 : decode cX3_copy 117 = .ok (.iload 5, 2) := by decide +kernel
theorem dX3_copy_119 : decode cX3_copy 119 = .ok (.invokestatic 204, 3) := by decide +kernel
theorem dX3_copy_122 : decode cX3_copy 122 = .ok (.iload 5, 2) := by decide +kernel
theorem dX3_copy_124 : decode cX3_copy 124 = .ok (.ireturn, 1) := by decide +kernel
theorem dX3_lays_0 : decode cX3_lays 0 = .ok (.aload_n 0, 1) := by decide +kernel
theorem dX3_lays_1 : decode cX3_lays 1 = .ok (.iload_n 1, 1) := by decide +kernel
theorem dX3_lays_2 : decode cX3_lays 2 = .ok (.invokevirtual 175, 3) := by decide +kernel
theorem dX3_lays_5 : decode cX3_lays 5 = .ok (.astore_n 2, 1) := by decide +kernel
theorem dX3_lays_6 : decode cX3_lays 6 = .ok (.aload_n 2, 1) := by decide +kernel
theorem dX3_lays_7 : decode cX3_lays 7 = .ok (.ifnonnull 10, 3) := by decide +kernel
theorem dX3_lays_10 : decode cX3_lays 10 = .ok (.aload_n 0, 1) := by decide +kernel
theorem dX3_lays_11 : decode cX3_lays 11 = .ok (.ldc 51, 2) := by decide +kernel
theorem dX3_lays_13 : decode cX3_lays 13 = .ok (.invokevirtual 52, 3) := by decide +kernel
theorem dX3_lays_16 : decode cX3_lays 16 = .ok (.ireturn, 1) := by decide +kernel
theorem dX3_lays_17 : decode cX3_lays 17 = .ok (.aload_n 2, 1) := by decide +kernel
theorem dX3_lays_18 : decode cX3_lays 18 = .ok (.invokevirtual 185, 3) := by decide +kernel
theorem dX3_lays_21 : decode cX3_lays 21 = .ok (.ifCond .eq 10, 3) := by decide +kernel
theorem dX3_lays_24 : decode cX3_lays 24 = .ok (.aload_n 0, 1) := by decide +kernel
theorem dX3_lays_25 : decode cX3_lays 25 = .ok (.ldc 188, 2) := by decide +kernel
theorem dX3_lays_27 : decode cX3_lays 27 = .ok (.invokevirtual 52, 3) := by decide +kernel
theorem dX3_lays_30 : decode cX3_lays 30 = .ok (.ireturn, 1) := by decide +kernel
theorem dX3_lays_31 : decode cX3_lays 31 = .ok (.iconst 0, 1) := by decide +kernel
theorem dX3_lays_32 : decode cX3_lays 32 = .ok (.istore_n 3, 1) := by decide +kernel
theorem dX3_lays_33 : decode cX3_lays 33 = .ok (.iconst 0, 1) := by decide +kernel
theorem dX3_lays_34 : decode cX3_lays 34 = .ok (.istore 4, 2) := by decide +kernel
theorem dX3_lays_36 : decode cX3_lays 36 = .ok (.iload 4, 2) := by decide +kernel
theorem dX3_lays_38 : decode cX3_lays 38 = .ok (.aload_n 2, 1) := by decide +kernel
theorem dX3_lays_39 : decode cX3_lays 39 = .ok (.getfield 184, 3) := by decide +kernel
theorem dX3_lays_42 : decode cX3_lays 42 = .ok (.if_icmp .ge 61, 3) := by decide +kernel
theorem dX3_lays_45 : decode cX3_lays 45 = .ok (.iload 4, 2) := by decide +kernel
theorem dX3_lays_47 : decode cX3_lays 47 = .ok (.aload_n 0, 1) := by decide +kernel
theorem dX3_lays_48 : decode cX3_lays 48 = .ok (.getfield 10, 3) := by decide +kernel
theorem dX3_lays_51 : decode cX3_lays 51 = .ok (.getfield 148, 3) := by decide +kernel
theorem dX3_lays_54 : decode cX3_lays 54 = .ok (.if_icmp .ge 49, 3) := by decide +kernel
theorem dX3_lays_57 : decode cX3_lays 57 = .ok (.aload_n 2, 1) := by decide +kernel
theorem dX3_lays_58 : decode cX3_lays 58 = .ok (.iload 4, 2) := by decide +kernel
theorem dX3_lays_60 : decode cX3_lays 60 = .ok (.invokevirtual 189, 3) := by decide +kernel
theorem dX3_lays_63 : decode cX3_lays 63 = .ok (.lstore 5, 2) := by decide +kernel
theorem dX3_lays_65 : decode cX3_lays 65 = .ok (.lload 5, 2) := by decide +kernel
theorem dX3_lays_67 : decode cX3_lays 67 = .ok (.lconst 0, 1) := by decide +kernel
theorem dX3_lays_68 : decode cX3_lays 68 = .ok (.lcmp, 1) := by decide +kernel
theorem dX3_lays_69 : decode cX3_lays 69 = .ok (.ifCond .lt 28, 3) := by decide +kernel
theorem dX3_lays_72 : decode cX3_lays 72 = .ok (.lload 5, 2) := by decide +kernel
theorem dX3_lays_74 : decode cX3_lays 74 = .ok (.ldc2_w 210, 3) := by decide +kernel
theorem dX3_lays_77 : decode cX3_lays 77 = .ok (.lcmp, 1) := by decide +kernel
theorem dX3_lays_78 : decode cX3_lays 78 = .ok (.ifCond .gt 19, 3) := by decide +kernel
theorem dX3_lays_81 : decode cX3_lays 81 = .ok (.aload_n 0, 1) := by decide +kernel
theorem dX3_lays_82 : decode cX3_lays 82 = .ok (.getfield 10, 3) := by decide +kernel
theorem dX3_lays_85 : decode cX3_lays 85 = .ok (.iload 4, 2) := by decide +kernel
theorem dX3_lays_87 : decode cX3_lays 87 = .ok (.iconst 3, 1) := by decide +kernel
theorem dX3_lays_88 : decode cX3_lays 88 = .ok (.lload 5, 2) := by decide +kernel
theorem dX3_lays_90 : decode cX3_lays 90 = .ok (.l2i, 1) := by decide +kernel
theorem dX3_lays_91 : decode cX3_lays 91 = .ok (.invokevirtual 117, 3) := by decide +kernel
theorem dX3_lays_94 : decode cX3_lays 94 = .ok (.iinc 3 1, 3) := by decide +kernel
theorem dX3_lays_97 : decode cX3_lays 97 = .ok (.iinc 4 1, 3) := by decide +kernel
theorem dX3_lays_100 : decode cX3_lays 100 = .ok (.goto (-64), 3) := by decide +kernel
theorem dX3_lays_103 : decode cX3_lays 103 = .ok (.iload_n 3, 1) := by decide +kernel
theorem dX3_lays_104 : decode cX3_lays 104 = .ok (.ireturn, 1) := by decide +kernel
theorem dX3_book_0 : decode cX3_book 0 = .ok (.aload_n 0, 1) := by decide +kernel
theorem dX3_book_1 : decode cX3_book 1 = .ok (.iload_n 1, 1) := by decide +kernel
theorem dX3_book_2 : decode cX3_book 2 = .ok (.invokevirtual 175, 3) := by decide +kernel
theorem dX3_book_5 : decode cX3_book 5 = .ok (.astore_n 3, 1) := by decide +kernel
theorem dX3_book_6 : decode cX3_book 6 = .ok (.aload_n 3, 1) := by decide +kernel
theorem dX3_book_7 : decode cX3_book 7 = .ok (.ifnonnull 10, 3) := by decide +kernel
theorem dX3_book_10 : decode cX3_book 10 = .ok (.aload_n 0, 1) := by decide +kernel
theorem dX3_book_11 : decode cX3_book 11 = .ok (.ldc 51, 2) := by decide +kernel
theorem dX3_book_13 : decode cX3_book 13 = .ok (.invokevirtual 52, 3) := by decide +kernel
theorem dX3_book_16 : decode cX3_book 16 = .ok (.ireturn, 1) := by decide +kernel
theorem dX3_book_17 : decode cX3_book 17 = .ok (.aload_n 3, 1) := by decide +kernel
theorem dX3_book_18 : decode cX3_book 18 = .ok (.invokevirtual 185, 3) := by decide +kernel
theorem dX3_book_21 : decode cX3_book 21 = .ok (.ifCond .eq 10, 3) := by decide +kernel
theorem dX3_book_24 : decode cX3_book 24 = .ok (.aload_n 0, 1) := by decide +kernel
theorem dX3_book_25 : decode cX3_book 25 = .ok (.ldc 188, 2) := by decide +kernel
theorem dX3_book_27 : decode cX3_book 27 = .ok (.invokevirtual 52, 3) := by decide +kernel
theorem dX3_book_30 : decode cX3_book 30 = .ok (.ireturn, 1) := by decide +kernel
theorem dX3_book_31 : decode cX3_book 31 = .ok (.aload_n 0, 1) := by decide +kernel
theorem dX3_book_32 : decode cX3_book 32 = .ok (.getfield 10, 3) := by decide +kernel
theorem dX3_book_35 : decode cX3_book 35 = .ok (.iload_n 2, 1) := by decide +kernel
theorem dX3_book_36 : decode cX3_book 36 = .ok (.invokevirtual 95, 3) := by decide +kernel
theorem dX3_book_39 : decode cX3_book 39 = .ok (.ifCond .eq 10, 3) := by decide +kernel
theorem dX3_book_42 : decode cX3_book 42 = .ok (.aload_n 0, 1) := by decide +kernel
theorem dX3_book_43 : decode cX3_book 43 = .ok (.ldc 51, 2) := by decide +kernel
theorem dX3_book_45 : decode cX3_book 45 = .ok (.invokevirtual 52, 3) := by decide +kernel
theorem dX3_book_48 : decode cX3_book 48 = .ok (.ireturn, 1) := by decide +kernel
theorem dX3_book_49 : decode cX3_book 49 = .ok (.aload_n 0, 1) := by decide +kernel
theorem dX3_book_50 : decode cX3_book 50 = .ok (.getfield 16, 3) := by decide +kernel
theorem dX3_book_53 : decode cX3_book 53 = .ok (.aload_n 0, 1) := by decide +kernel
theorem dX3_book_54 : decode cX3_book 54 = .ok (.getfield 10, 3) := by decide +kernel
theorem dX3_book_57 : decode cX3_book 57 = .ok (.invokevirtual 135, 3) := by decide +kernel
theorem dX3_book_60 : decode cX3_book 60 = .ok (.iconst 0, 1) := by decide +kernel
theorem dX3_book_61 : decode cX3_book 61 = .ok (.istore 4, 2) := by decide +kernel
theorem dX3_book_63 : decode cX3_book 63 = .ok (.iload 4, 2) := by decide +kernel
theorem dX3_book_65 : decode cX3_book 65 = .ok (.aload_n 3, 1) := by decide +kernel
theorem dX3_book_66 : decode cX3_book 66 = .ok (.getfield 184, 3) := by decide +kernel
theorem dX3_book_69 : decode cX3_book 69 = .ok (.if_icmp .ge 32, 3) := by decide +kernel
theorem dX3_book_72 : decode cX3_book 72 = .ok (.aload_n 3, 1) := by decide +kernel
theorem dX3_book_73 : decode cX3_book 73 = .ok (.iload 4, 2) := by decide +kernel
theorem dX3_book_75 : decode cX3_book 75 = .ok (.aload_n 0, 1) := by decide +kernel
theorem dX3_book_76 : decode cX3_book 76 = .ok (.getfield 16, 3) := by decide +kernel
theorem dX3_book_79 : decode cX3_book 79 = .ok (.iload_n 2, 1) := by decide +kernel
theorem dX3_book_80 : decode cX3_book 80 = .ok (.invokevirtual 212, 3) := by decide +kernel
theorem dX3_book_83 : decode cX3_book 83 = .ok (.i2l, 1) := by decide +kernel
theorem dX3_book_84 : decode cX3_book 84 = .ok (.invokevirtual 192, 3) := by decide +kernel
theorem dX3_book_87 : decode cX3_book 87 = .ok (.aload_n 0, 1) := by decide +kernel
theorem dX3_book_88 : decode cX3_book 88 = .ok (.getfield 16, 3) := by decide +kernel
theorem dX3_book_91 : decode cX3_book 91 = .ok (.iconst 1, 1) := by decide +kernel
theorem dX3_book_92 : decode cX3_book 92 = .ok (.invokevirtual 131, 3) := by decide +kernel
theorem dX3_book_95 : decode cX3_book 95 = .ok (.iinc 4 1, 3) := by decide +kernel
theorem dX3_book_98 : decode cX3_book 98 = .ok (.goto (-35), 3) := by decide +kernel
theorem dX3_book_101 : decode cX3_book 101 = .ok (.aload_n 3, 1) := by decide +kernel
theorem dX3_book_102 : decode cX3_book 102 = .ok (.getfield 184, 3) := by decide +kernel
theorem dX3_book_105 : decode cX3_book 105 = .ok (.ireturn, 1) := by decide +kernel
theorem dX3_read_0 : decode cX3_read 0 = .ok (.aload_n 0, 1) := by decide +kernel
theorem dX3_read_1 : decode cX3_read 1 = .ok (.iload_n 1, 1) := by decide +kernel
theorem dX3_read_2 : decode cX3_read 2 = .ok (.invokevirtual 175, 3) := by decide +kernel
theorem dX3_read_5 : decode cX3_read 5 = .ok (.astore_n 3, 1) := by decide +kernel
theorem dX3_read_6 : decode cX3_read 6 = .ok (.aload_n 3, 1) := by decide +kernel
theorem dX3_read_7 : decode cX3_read 7 = .ok (.ifnonnull 10, 3) := by decide +kernel
theorem dX3_read_10 : decode cX3_read 10 = .ok (.aload_n 0, 1) := by decide +kernel
theorem dX3_read_11 : decode cX3_read 11 = .ok (.ldc 51, 2) := by decide +kernel
theorem dX3_read_13 : decode cX3_read 13 = .ok (.invokevirtual 52, 3) := by decide +kernel
theorem dX3_read_16 : decode cX3_read 16 = .ok (.ireturn, 1) := by decide +kernel
theorem dX3_read_17 : decode cX3_read 17 = .ok (.aload_n 3, 1) := by decide +kernel
theorem dX3_read_18 : decode cX3_read 18 = .ok (.invokevirtual 185, 3) := by decide +kernel
theorem dX3_read_21 : decode cX3_read 21 = .ok (.ifCond .eq 10, 3) := by decide +kernel
theorem dX3_read_24 : decode cX3_read 24 = .ok (.aload_n 0, 1) := by decide +kernel
theorem dX3_read_25 : decode cX3_read 25 = .ok (.ldc 188, 2) := by decide +kernel
theorem dX3_read_27 : decode cX3_read 27 = .ok (.invokevirtual 52, 3) := by decide +kernel
theorem dX3_read_30 : decode cX3_read 30 = .ok (.ireturn, 1) := by decide +kernel
theorem dX3_read_31 : decode cX3_read 31 = .ok (.aload_n 0, 1) := by decide +kernel
theorem dX3_read_32 : decode cX3_read 32 = .ok (.getfield 10, 3) := by decide +kernel
theorem dX3_read_35 : decode cX3_read 35 = .ok (.iload_n 2, 1) := by decide +kernel
theorem dX3_read_36 : decode cX3_read 36 = .ok (.invokevirtual 95, 3) := by decide +kernel
theorem dX3_read_39 : decode cX3_read 39 = .ok (.ifCond .eq 10, 3) := by decide +kernel
theorem dX3_read_42 : decode cX3_read 42 = .ok (.aload_n 0, 1) := by decide +kernel
theorem dX3_read_43 : decode cX3_read 43 = .ok (.ldc 51, 2) := by decide +kernel
theorem dX3_read_45 : decode cX3_read 45 = .ok (.invokevirtual 52, 3) := by decide +kernel
theorem dX3_read_48 : decode cX3_read 48 = .ok (.ireturn, 1) := by decide +kernel
theorem dX3_read_49 : decode cX3_read 49 = .ok (.iconst 0, 1) := by decide +kernel
theorem dX3_read_50 : decode cX3_read 50 = .ok (.istore 4, 2) := by decide +kernel
theorem dX3_read_52 : decode cX3_read 52 = .ok (.iconst 0, 1) := by decide +kernel
theorem dX3_read_53 : decode cX3_read 53 = .ok (.istore 5, 2) := by decide +kernel
theorem dX3_read_55 : decode cX3_read 55 = .ok (.iload 5, 2) := by decide +kernel
theorem dX3_read_57 : decode cX3_read 57 = .ok (.iconst 5, 1) := by decide +kernel
theorem dX3_read_58 : decode cX3_read 58 = .ok (.if_icmp .gt 55, 3) := by decide +kernel
theorem dX3_read_61 : decode cX3_read 61 = .ok (.iconst 0, 1) := by decide +kernel
theorem dX3_read_62 : decode cX3_read 62 = .ok (.istore 6, 2) := by decide +kernel
theorem dX3_read_64 : decode cX3_read 64 = .ok (.iload 6, 2) := by decide +kernel
theorem dX3_read_66 : decode cX3_read 66 = .ok (.iconst 4, 1) := by decide +kernel
theorem dX3_read_67 : decode cX3_read 67 = .ok (.if_icmp .gt 40, 3) := by decide +kernel
theorem dX3_read_70 : decode cX3_read 70 = .ok (.aload_n 0, 1) := by decide +kernel
theorem dX3_read_71 : decode cX3_read 71 = .ok (.iload_n 2, 1) := by decide +kernel
theorem dX3_read_72 : decode cX3_read 72 = .ok (.iconst 0, 1) := by decide +kernel
theorem dX3_read_73 : decode cX3_read 73 = .ok (.iload 5, 2) := by decide +kernel
theorem dX3_read_75 : decode cX3_read 75 = .ok (.invokevirtual 151, 3) := by decide +kernel
theorem dX3_read_78 : decode cX3_read 78 = .ok (.aload_n 0, 1) := by decide +kernel
theorem dX3_read_79 : decode cX3_read 79 = .ok (.getfield 16, 3) := by decide +kernel
theorem dX3_read_82 : decode cX3_read 82 = .ok (.iload_n 2, 1) := by decide +kernel
theorem dX3_read_83 : decode cX3_read 83 = .ok (.iconst 5, 1) := by decide +kernel
theorem dX3_read_84 : decode cX3_read 84 = .ok (.iload 6, 2) := by decide +kernel
theorem dX3_read_86 : decode cX3_read 86 = .ok (.invokevirtual 117, 3) := by decide +kernel
theorem dX3_read_89 : decode cX3_read 89 = .ok (.aload_n 0, 1) := by decide +kernel
theorem dX3_read_90 : decode cX3_read 90 = .ok (.aload_n 3, 1) := by decide +kernel
theorem dX3_read_91 : decode cX3_read 91 = .ok (.iload_n 2, 1) := by decide +kernel
theorem dX3_read_92 : decode cX3_read 92 = .ok (.invokevirtual 215, 3) := by decide +kernel
theorem dX3_read_95 : decode cX3_read 95 = .ok (.ifCond .eq 6, 3) := by decide +kernel
theorem dX3_read_98 : decode cX3_read 98 = .ok (.iinc 4 1, 3) := by decide +kernel
theorem dX3_read_101 : decode cX3_read 101 = .ok (.iinc 6 1, 3) := by decide +kernel
theorem dX3_read_104 : decode cX3_read 104 = .ok (.goto (-40), 3) := by decide +kernel
theorem dX3_read_107 : decode cX3_read 107 = .ok (.iinc 5 1, 3) := by decide +kernel
theorem dX3_read_110 : decode cX3_read 110 = .ok (.goto (-55), 3) := by decide +kernel
theorem dX3_read_113 : decode cX3_read 113 = .ok (.iload 4, 2) := by decide +kernel
theorem dX3_read_115 : decode cX3_read 115 = .ok (.ireturn, 1) := by decide +kernel
theorem dX3_image_0 : decode cX3_image 0 = .ok (.aload_n 0, 1) := by decide +kernel
theorem dX3_image_1 : decode cX3_image 1 = .ok (.getfield 19, 3) := by decide +kernel
theorem dX3_image_4 : decode cX3_image 4 = .ok (.aload_n 0, 1) := by decide +kernel
theorem dX3_image_5 : decode cX3_image 5 = .ok (.getfield 10, 3) := by decide +kernel
theorem dX3_image_8 : decode cX3_image 8 = .ok (.invokevirtual 135, 3) := by decide +kernel
theorem dX3_image_11 : decode cX3_image 11 = .ok (.aload_n 0, 1) := by decide +kernel
theorem dX3_image_12 : decode cX3_image 12 = .ok (.iconst 1, 1) := by decide +kernel
theorem dX3_image_13 : decode cX3_image 13 = .ok (.putfield 22, 3) := by decide +kernel
theorem dX3_image_16 : decode cX3_image 16 = .ok (.iconst 1, 1) := by decide +kernel
theorem dX3_image_17 : decode cX3_image 17 = .ok (.ireturn, 1) := by decide +kernel
theorem dX3_undo_0 : decode cX3_undo 0 = .ok (.aload_n 0, 1) := by decide +kernel
theorem dX3_undo_1 : decode cX3_undo 1 = .ok (.getfield 22, 3) := by decide +kernel
theorem dX3_undo_4 : decode cX3_undo 4 = .ok (.ifCond .ne 10, 3) := by decide +kernel
theorem dX3_undo_7 : decode cX3_undo 7 = .ok (.aload_n 0, 1) := by decide +kernel
theorem dX3_undo_8 : decode cX3_undo 8 = .ok (.ldc 154, 2) := by decide +kernel
theorem dX3_undo_10 : decode cX3_undo 10 = .ok (.invokevirtual 52, 3) := by decide +kernel
theorem dX3_undo_13 : decode cX3_undo 13 = .ok (.ireturn, 1) := by decide +kernel
theorem dX3_undo_14 : decode cX3_undo 14 = .ok (.aload_n 0, 1) := by decide +kernel
theorem dX3_undo_15 : decode cX3_undo 15 = .ok (.getfield 10, 3) := by decide +kernel
theorem dX3_undo_18 : decode cX3_undo 18 = .ok (.aload_n 0, 1) := by decide +kernel
theorem dX3_undo_19 : decode cX3_undo 19 = .ok (.getfield 19, 3) := by decide +kernel
theorem dX3_undo_22 : decode cX3_undo 22 = .ok (.invokevirtual 135, 3) := by decide +kernel
theorem dX3_undo_25 : decode cX3_undo 25 = .ok (.aload_n 0, 1) := by decide +kernel
theorem dX3_undo_26 : decode cX3_undo 26 = .ok (.getfield 10, 3) := by decide +kernel
theorem dX3_undo_29 : decode cX3_undo 29 = .ok (.getfield 148, 3) := by decide +kernel
theorem dX3_undo_32 : decode cX3_undo 32 = .ok (.ireturn, 1) := by decide +kernel
theorem dX3_tear_0 : decode cX3_tear 0 = .ok (.aload_n 0, 1) := by decide +kernel
theorem dX3_tear_1 : decode cX3_tear 1 = .ok (.getfield 22, 3) := by decide +kernel
theorem dX3_tear_4 : decode cX3_tear 4 = .ok (.ifCond .eq 7, 3) := by decide +kernel
theorem dX3_tear_7 : decode cX3_tear 7 = .ok (.iconst 1, 1) := by decide +kernel
theorem dX3_tear_8 : decode cX3_tear 8 = .ok (.goto 4, 3) := by decide +kernel
theorem dX3_tear_11 : decode cX3_tear 11 = .ok (.iconst 0, 1) := by decide +kernel
theorem dX3_tear_12 : decode cX3_tear 12 = .ok (.istore_n 1, 1) := by decide +kernel
theorem dX3_tear_13 : decode cX3_tear 13 = .ok (.aload_n 0, 1) := by decide +kernel
theorem dX3_tear_14 : decode cX3_tear 14 = .ok (.iconst 0, 1) := by decide +kernel
theorem dX3_tear_15 : decode cX3_tear 15 = .ok (.putfield 22, 3) := by decide +kernel
theorem dX3_tear_18 : decode cX3_tear 18 = .ok (.iload_n 1, 1) := by decide +kernel
theorem dX3_tear_19 : decode cX3_tear 19 = .ok (.ireturn, 1) := by decide +kernel
theorem dX3_count_0 : decode cX3_count 0 = .ok (.iload_n 1, 1) := by decide +kernel
theorem dX3_count_1 : decode cX3_count 1 = .ok (.tableswitch 65 0 3 #[31, 39, 47, 56], 31) := by decide +kernel
theorem dX3_count_32 : decode cX3_count 32 = .ok (.aload_n 0, 1) := by decide +kernel
theorem dX3_count_33 : decode cX3_count 33 = .ok (.getfield 10, 3) := by decide +kernel
theorem dX3_count_36 : decode cX3_count 36 = .ok (.getfield 148, 3) := by decide +kernel
theorem dX3_count_39 : decode cX3_count 39 = .ok (.ireturn, 1) := by decide +kernel
theorem dX3_count_40 : decode cX3_count 40 = .ok (.aload_n 0, 1) := by decide +kernel
theorem dX3_count_41 : decode cX3_count 41 = .ok (.getfield 29, 3) := by decide +kernel
theorem dX3_count_44 : decode cX3_count 44 = .ok (.getfield 165, 3) := by decide +kernel
theorem dX3_count_47 : decode cX3_count 47 = .ok (.ireturn, 1) := by decide +kernel
theorem dX3_count_48 : decode cX3_count 48 = .ok (.aload_n 0, 1) := by decide +kernel
theorem dX3_count_49 : decode cX3_count 49 = .ok (.getfield 10, 3) := by decide +kernel
theorem dX3_count_52 : decode cX3_count 52 = .ok (.iconst 4, 1) := by decide +kernel
theorem dX3_count_53 : decode cX3_count 53 = .ok (.invokevirtual 84, 3) := by decide +kernel
theorem dX3_count_56 : decode cX3_count 56 = .ok (.ireturn, 1) := by decide +kernel
theorem dX3_count_57 : decode cX3_count 57 = .ok (.aload_n 0, 1) := by decide +kernel
theorem dX3_count_58 : decode cX3_count 58 = .ok (.getfield 10, 3) := by decide +kernel
theorem dX3_count_61 : decode cX3_count 61 = .ok (.iconst 3, 1) := by decide +kernel
theorem dX3_count_62 : decode cX3_count 62 = .ok (.invokevirtual 84, 3) := by decide +kernel
theorem dX3_count_65 : decode cX3_count 65 = .ok (.ireturn, 1) := by decide +kernel
theorem dX3_count_66 : decode cX3_count 66 = .ok (.aload_n 0, 1) := by decide +kernel
theorem dX3_count_67 : decode cX3_count 67 = .ok (.ldc 51, 2) := by decide +kernel
theorem dX3_count_69 : decode cX3_count 69 = .ok (.invokevirtual 52, 3) := by decide +kernel
theorem dX3_count_72 : decode cX3_count 72 = .ok (.ireturn, 1) := by decide +kernel
theorem dX3_status_0 : decode cX3_status 0 = .ok (.iload_n 1, 1) := by decide +kernel
theorem dX3_status_1 : decode cX3_status 1 = .ok (.iconst (-1), 1) := by decide +kernel
theorem dX3_status_2 : decode cX3_status 2 = .ok (.bipush 6, 2) := by decide +kernel
theorem dX3_status_4 : decode cX3_status 4 = .ok (.invokestatic 47, 3) := by decide +kernel
theorem dX3_status_7 : decode cX3_status 7 = .ok (.ifCond .eq 10, 3) := by decide +kernel
theorem dX3_status_10 : decode cX3_status 10 = .ok (.aload_n 0, 1) := by decide +kernel
theorem dX3_status_11 : decode cX3_status 11 = .ok (.ldc 51, 2) := by decide +kernel
theorem dX3_status_13 : decode cX3_status 13 = .ok (.invokevirtual 52, 3) := by decide +kernel
theorem dX3_status_16 : decode cX3_status 16 = .ok (.ireturn, 1) := by decide +kernel
theorem dX3_status_17 : decode cX3_status 17 = .ok (.iload_n 1, 1) := by decide +kernel
theorem dX3_status_18 : decode cX3_status 18 = .ok (.ifCond .lt 10, 3) := by decide +kernel
theorem dX3_status_21 : decode cX3_status 21 = .ok (.aload_n 0, 1) := by decide +kernel
theorem dX3_status_22 : decode cX3_status 22 = .ok (.getfield 40, 3) := by decide +kernel
theorem dX3_status_25 : decode cX3_status 25 = .ok (.iload_n 1, 1) := by decide +kernel
theorem dX3_status_26 : decode cX3_status 26 = .ok (.iaload, 1) := by decide +kernel
theorem dX3_status_27 : decode cX3_status 27 = .ok (.ireturn, 1) := by decide +kernel
theorem dX3_status_28 : decode cX3_status 28 = .ok (.iconst 0, 1) := by decide +kernel
theorem dX3_status_29 : decode cX3_status 29 = .ok (.istore_n 2, 1) := by decide +kernel
theorem dX3_status_30 : decode cX3_status 30 = .ok (.iconst 0, 1) := by decide +kernel
theorem dX3_status_31 : decode cX3_status 31 = .ok (.istore_n 3, 1) := by decide +kernel
theorem dX3_status_32 : decode cX3_status 32 = .ok (.iload_n 3, 1) := by decide +kernel
theorem dX3_status_33 : decode cX3_status 33 = .ok (.bipush 7, 2) := by decide +kernel
theorem dX3_status_35 : decode cX3_status 35 = .ok (.if_icmp .ge 18, 3) := by decide +kernel
theorem dX3_status_38 : decode cX3_status 38 = .ok (.iload_n 2, 1) := by decide +kernel
theorem dX3_status_39 : decode cX3_status 39 = .ok (.aload_n 0, 1) := by decide +kernel
theorem dX3_status_40 : decode cX3_status 40 = .ok (.getfield 40, 3) := by decide +kernel
theorem dX3_status_43 : decode cX3_status 43 = .ok (.iload_n 3, 1) := by decide +kernel
theorem dX3_status_44 : decode cX3_status 44 = .ok (.iaload, 1) := by decide +kernel
theorem dX3_status_45 : decode cX3_status 45 = .ok (.iadd, 1) := by decide +kernel
theorem dX3_status_46 : decode cX3_status 46 = .ok (.istore_n 2, 1) := by decide +kernel
theorem dX3_status_47 : decode cX3_status 47 = .ok (.iinc 3 1, 3) := by decide +kernel
theorem dX3_status_50 : decode cX3_status 50 = .ok (.goto (-18), 3) := by decide +kernel
theorem dX3_status_53 : decode cX3_status 53 = .ok (.iload_n 2, 1) := by decide +kernel
theorem dX3_status_54 : decode cX3_status 54 = .ok (.ireturn, 1) := by decide +kernel
theorem dX3_finding_0 : decode cX3_finding 0 = .ok (.ldc 51, 2) := by decide +kernel
theorem dX3_finding_2 : decode cX3_finding 2 = .ok (.iload_n 1, 1) := by decide +kernel
theorem dX3_finding_3 : decode cX3_finding 3 = .ok (.isub, 1) := by decide +kernel
theorem dX3_finding_4 : decode cX3_finding 4 = .ok (.istore_n 2, 1) := by decide +kernel
theorem dX3_finding_5 : decode cX3_finding 5 = .ok (.iload_n 2, 1) := by decide +kernel
theorem dX3_finding_6 : decode cX3_finding 6 = .ok (.ifCond .lt 19, 3) := by decide +kernel
theorem dX3_finding_9 : decode cX3_finding 9 = .ok (.iload_n 2, 1) := by decide +kernel
theorem dX3_finding_10 : decode cX3_finding 10 = .ok (.bipush 7, 2) := by decide +kernel
theorem dX3_finding_12 : decode cX3_finding 12 = .ok (.if_icmp .ge 13, 3) := by decide +kernel
theorem dX3_finding_15 : decode cX3_finding 15 = .ok (.aload_n 0, 1) := by decide +kernel
theorem dX3_finding_16 : decode cX3_finding 16 = .ok (.getfield 40, 3) := by decide +kernel
theorem dX3_finding_19 : decode cX3_finding 19 = .ok (.iload_n 2, 1) := by decide +kernel
theorem dX3_finding_20 : decode cX3_finding 20 = .ok (.dup2, 1) := by decide +kernel
theorem dX3_finding_21 : decode cX3_finding 21 = .ok (.iaload, 1) := by decide +kernel
theorem dX3_finding_22 : decode cX3_finding 22 = .ok (.iconst 1, 1) := by decide +kernel
theorem dX3_finding_23 : decode cX3_finding 23 = .ok (.iadd, 1) := by decide +kernel
theorem dX3_finding_24 : decode cX3_finding 24 = .ok (.iastore, 1) := by decide +kernel
theorem dX3_finding_25 : decode cX3_finding 25 = .ok (.iload_n 1, 1) := by decide +kernel
theorem dX3_finding_26 : decode cX3_finding 26 = .ok (.ireturn, 1) := by decide +kernel
theorem dX3_isOutside_0 : decode cX3_isOutside 0 = .ok (.iload_n 0, 1) := by decide +kernel
theorem dX3_isOutside_1 : decode cX3_isOutside 1 = .ok (.iload_n 1, 1) := by decide +kernel
theorem dX3_isOutside_2 : decode cX3_isOutside 2 = .ok (.if_icmp .lt 8, 3) := by decide +kernel
theorem dX3_isOutside_5 : decode cX3_isOutside 5 = .ok (.iload_n 0, 1) := by decide +kernel
theorem dX3_isOutside_6 : decode cX3_isOutside 6 = .ok (.iload_n 2, 1) := by decide +kernel
theorem dX3_isOutside_7 : decode cX3_isOutside 7 = .ok (.if_icmp .le 7, 3) := by decide +kernel
theorem dX3_isOutside_10 : decode cX3_isOutside 10 = .ok (.iconst 1, 1) := by decide +kernel
theorem dX3_isOutside_11 : decode cX3_isOutside 11 = .ok (.goto 4, 3) := by decide +kernel
theorem dX3_isOutside_14 : decode cX3_isOutside 14 = .ok (.iconst 0, 1) := by decide +kernel
theorem dX3_isOutside_15 : decode cX3_isOutside 15 = .ok (.ireturn, 1) := by decide +kernel
theorem dX3_least_0 : decode cX3_least 0 = .ok (.iload_n 0, 1) := by decide +kernel
theorem dX3_least_1 : decode cX3_least 1 = .ok (.bipush 6, 2) := by decide +kernel
theorem dX3_least_3 : decode cX3_least 3 = .ok (.if_icmp .ne 7, 3) := by decide +kernel
theorem dX3_least_6 : decode cX3_least 6 = .ok (.iconst (-1), 1) := by decide +kernel
theorem dX3_least_7 : decode cX3_least 7 = .ok (.goto 4, 3) := by decide +kernel
theorem dX3_least_10 : decode cX3_least 10 = .ok (.iconst 0, 1) := by decide +kernel
theorem dX3_least_11 : decode cX3_least 11 = .ok (.ireturn, 1) := by decide +kernel
theorem dX3_greatest_0 : decode cX3_greatest 0 = .ok (.iload_n 1, 1) := by decide +kernel
theorem dX3_greatest_1 : decode cX3_greatest 1 = .ok (.tableswitch 71 1 8 #[47, 49, 52, 71, 55, 57, 71, 67], 47) := by decide +kernel
theorem dX3_greatest_48 : decode cX3_greatest 48 = .ok (.iconst 3, 1) := by decide +kernel
theorem dX3_greatest_49 : decode cX3_greatest 49 = .ok (.ireturn, 1) := by decide +kernel
theorem dX3_greatest_50 : decode cX3_greatest 50 = .ok (.bipush 19, 2) := by decide +kernel
theorem dX3_greatest_52 : decode cX3_greatest 52 = .ok (.ireturn, 1) := by decide +kernel
theorem dX3_greatest_53 : decode cX3_greatest 53 = .ok (.bipush 99, 2) := by decide +kernel
theorem dX3_greatest_55 : decode cX3_greatest 55 = .ok (.ireturn, 1) := by decide +kernel
theorem dX3_greatest_56 : decode cX3_greatest 56 = .ok (.iconst 4, 1) := by decide +kernel
theorem dX3_greatest_57 : decode cX3_greatest 57 = .ok (.ireturn, 1) := by decide +kernel
theorem dX3_greatest_58 : decode cX3_greatest 58 = .ok (.aload_n 0, 1) := by decide +kernel
theorem dX3_greatest_59 : decode cX3_greatest 59 = .ok (.getfield 10, 3) := by decide +kernel
theorem dX3_greatest_62 : decode cX3_greatest 62 = .ok (.getfield 148, 3) := by decide +kernel
theorem dX3_greatest_65 : decode cX3_greatest 65 = .ok (.iconst 1, 1) := by decide +kernel
theorem dX3_greatest_66 : decode cX3_greatest 66 = .ok (.isub, 1) := by decide +kernel
theorem dX3_greatest_67 : decode cX3_greatest 67 = .ok (.ireturn, 1) := by decide +kernel
theorem dX3_greatest_68 : decode cX3_greatest 68 = .ok (.sipush 9999, 3) := by decide +kernel
theorem dX3_greatest_71 : decode cX3_greatest 71 = .ok (.ireturn, 1) := by decide +kernel
theorem dX3_greatest_72 : decode cX3_greatest 72 = .ok (.iconst 1, 1) := by decide +kernel
theorem dX3_greatest_73 : decode cX3_greatest 73 = .ok (.ireturn, 1) := by decide +kernel
theorem dX3_kindAbove_0 : decode cX3_kindAbove 0 = .ok (.iload_n 0, 1) := by decide +kernel
theorem dX3_kindAbove_1 : decode cX3_kindAbove 1 = .ok (.lookupswitch 31 #[(4, 27), (5, 29)], 27) := by decide +kernel
theorem dX3_kindAbove_28 : decode cX3_kindAbove 28 = .ok (.iconst 1, 1) := by decide +kernel
theorem dX3_kindAbove_29 : decode cX3_kindAbove 29 = .ok (.ireturn, 1) := by decide +kernel
theorem dX3_kindAbove_30 : decode cX3_kindAbove 30 = .ok (.iconst 2, 1) := by decide +kernel
theorem dX3_kindAbove_31 : decode cX3_kindAbove 31 = .ok (.ireturn, 1) := by decide +kernel
theorem dX3_kindAbove_32 : decode cX3_kindAbove 32 = .ok (.iconst 0, 1) := by decide +kernel
theorem dX3_kindAbove_33 : decode cX3_kindAbove 33 = .ok (.ireturn, 1) := by decide +kernel
theorem dX3_isUnder_0 : decode cX3_isUnder 0 = .ok (.iload_n 0, 1) := by decide +kernel
theorem dX3_isUnder_1 : decode cX3_isUnder 1 = .ok (.iload_n 1, 1) := by decide +kernel
theorem dX3_isUnder_2 : decode cX3_isUnder 2 = .ok (.if_icmp .eq 15, 3) := by decide +kernel
theorem dX3_isUnder_5 : decode cX3_isUnder 5 = .ok (.iload_n 0, 1) := by decide +kernel
theorem dX3_isUnder_6 : decode cX3_isUnder 6 = .ok (.invokestatic 219, 3) := by decide +kernel
theorem dX3_isUnder_9 : decode cX3_isUnder 9 = .ok (.iload_n 1, 1) := by decide +kernel
theorem dX3_isUnder_10 : decode cX3_isUnder 10 = .ok (.if_icmp .eq 7, 3) := by decide +kernel
theorem dX3_isUnder_13 : decode cX3_isUnder 13 = .ok (.iload_n 1, 1) := by decide +kernel
theorem dX3_isUnder_14 : decode cX3_isUnder 14 = .ok (.ifCond .ne 7, 3) := by decide +kernel
theorem dX3_isUnder_17 : decode cX3_isUnder 17 = .ok (.iconst 1, 1) := by decide +kernel
theorem dX3_isUnder_18 : decode cX3_isUnder 18 = .ok (.goto 4, 3) := by decide +kernel
theorem dX3_isUnder_21 : decode cX3_isUnder 21 = .ok (.iconst 0, 1) := by decide +kernel
theorem dX3_isUnder_22 : decode cX3_isUnder 22 = .ok (.ireturn, 1) := by decide +kernel
theorem dX3_sheetAt_0 : decode cX3_sheetAt 0 = .ok (.iload_n 1, 1) := by decide +kernel
theorem dX3_sheetAt_1 : decode cX3_sheetAt 1 = .ok (.iconst 0, 1) := by decide +kernel
theorem dX3_sheetAt_2 : decode cX3_sheetAt 2 = .ok (.iconst 3, 1) := by decide +kernel
theorem dX3_sheetAt_3 : decode cX3_sheetAt 3 = .ok (.invokestatic 47, 3) := by decide +kernel
theorem dX3_sheetAt_6 : decode cX3_sheetAt 6 = .ok (.ifCond .eq 7, 3) := by decide +kernel
theorem dX3_sheetAt_9 : decode cX3_sheetAt 9 = .ok (.aconst_null, 1) := by decide +kernel
theorem dX3_sheetAt_10 : decode cX3_sheetAt 10 = .ok (.goto 9, 3) := by decide +kernel
theorem dX3_sheetAt_13 : decode cX3_sheetAt 13 = .ok (.aload_n 0, 1) := by decide +kernel
theorem dX3_sheetAt_14 : decode cX3_sheetAt 14 = .ok (.getfield 35, 3) := by decide +kernel
theorem dX3_sheetAt_17 : decode cX3_sheetAt 17 = .ok (.iload_n 1, 1) := by decide +kernel
theorem dX3_sheetAt_18 : decode cX3_sheetAt 18 = .ok (.aaload, 1) := by decide +kernel
theorem dX3_sheetAt_19 : decode cX3_sheetAt 19 = .ok (.areturn, 1) := by decide +kernel
theorem dX3_firstContent_0 : decode cX3_firstContent 0 = .ok (.aload_n 0, 1) := by decide +kernel
theorem dX3_firstContent_1 : decode cX3_firstContent 1 = .ok (.getfield 16, 3) := by decide +kernel
theorem dX3_firstContent_4 : decode cX3_firstContent 4 = .ok (.aload_n 0, 1) := by decide +kernel
theorem dX3_firstContent_5 : decode cX3_firstContent 5 = .ok (.getfield 10, 3) := by decide +kernel
theorem dX3_firstContent_8 : decode cX3_firstContent 8 = .ok (.invokevirtual 135, 3) := by decide +kernel
theorem dX3_firstContent_11 : decode cX3_firstContent 11 = .ok (.iconst 0, 1) := by decide +kernel
theorem dX3_firstContent_12 : decode cX3_firstContent 12 = .ok (.istore_n 2, 1) := by decide +kernel
theorem dX3_firstContent_13 : decode cX3_firstContent 13 = .ok (.iload_n 2, 1) := by decide +kernel
theorem dX3_firstContent_14 : decode cX3_firstContent 14 = .ok (.sipush 200, 3) := by decide +kernel
theorem dX3_firstContent_17 : decode cX3_firstContent 17 = .ok (.if_icmp .gt 32, 3) := by decide +kernel
theorem dX3_firstContent_20 : decode cX3_firstContent 20 = .ok (.aload_n 0, 1) := by decide +kernel
theorem dX3_firstContent_21 : decode cX3_firstContent 21 = .ok (.getfield 16, 3) := by decide +kernel
theorem dX3_firstContent_24 : decode cX3_firstContent 24 = .ok (.invokevirtual 71, 3) := by decide +kernel
theorem dX3_firstContent_27 : decode cX3_firstContent 27 = .ok (.iload_n 1, 1) := by decide +kernel
theorem dX3_firstContent_28 : decode cX3_firstContent 28 = .ok (.iand, 1) := by decide +kernel
theorem dX3_firstContent_29 : decode cX3_firstContent 29 = .ok (.iload_n 1, 1) := by decide +kernel
theorem dX3_firstContent_30 : decode cX3_firstContent 30 = .ok (.if_icmp .ne 5, 3) := by decide +kernel
theorem dX3_firstContent_33 : decode cX3_firstContent 33 = .ok (.iload_n 2, 1) := by decide +kernel
theorem dX3_firstContent_34 : decode cX3_firstContent 34 = .ok (.ireturn, 1) := by decide +kernel
theorem dX3_firstContent_35 : decode cX3_firstContent 35 = .ok (.aload_n 0, 1) := by decide +kernel
theorem dX3_firstContent_36 : decode cX3_firstContent 36 = .ok (.getfield 16, 3) := by decide +kernel
theorem dX3_firstContent_39 : decode cX3_firstContent 39 = .ok (.iconst 1, 1) := by decide +kernel
theorem dX3_firstContent_40 : decode cX3_firstContent 40 = .ok (.invokevirtual 131, 3) := by decide +kernel
theorem dX3_firstContent_43 : decode cX3_firstContent 43 = .ok (.iinc 2 1, 3) := by decide +kernel
theorem dX3_firstContent_46 : decode cX3_firstContent 46 = .ok (.goto (-33), 3) := by decide +kernel
theorem dX3_firstContent_49 : decode cX3_firstContent 49 = .ok (.aload_n 0, 1) := by decide +kernel
theorem dX3_firstContent_50 : decode cX3_firstContent 50 = .ok (.ldc 154, 2) := by decide +kernel
theorem dX3_firstContent_52 : decode cX3_firstContent 52 = .ok (.invokevirtual 52, 3) := by decide +kernel
theorem dX3_firstContent_55 : decode cX3_firstContent 55 = .ok (.ireturn, 1) := by decide +kernel
theorem dX3_suppose_0 : decode cX3_suppose 0 = .ok (.aload_n 0, 1) := by decide +kernel
theorem dX3_suppose_1 : decode cX3_suppose 1 = .ok (.getfield 16, 3) := by decide +kernel
theorem dX3_suppose_4 : decode cX3_suppose 4 = .ok (.aload_n 0, 1) := by decide +kernel
theorem dX3_suppose_5 : decode cX3_suppose 5 = .ok (.getfield 10, 3) := by decide +kernel
theorem dX3_suppose_8 : decode cX3_suppose 8 = .ok (.invokevirtual 135, 3) := by decide +kernel
theorem dX3_suppose_11 : decode cX3_suppose 11 = .ok (.aload_n 0, 1) := by decide +kernel
theorem dX3_suppose_12 : decode cX3_suppose 12 = .ok (.getfield 16, 3) := by decide +kernel
theorem dX3_suppose_15 : decode cX3_suppose 15 = .ok (.iload_n 1, 1) := by decide +kernel
theorem dX3_suppose_16 : decode cX3_suppose 16 = .ok (.iload_n 2, 1) := by decide +kernel
theorem dX3_suppose_17 : decode cX3_suppose 17 = .ok (.iload_n 3, 1) := by decide +kernel
theorem dX3_suppose_18 : decode cX3_suppose 18 = .ok (.invokevirtual 117, 3) := by decide +kernel
theorem dX3_suppose_21 : decode cX3_suppose 21 = .ok (.return_, 1) := by decide +kernel
theorem dX3_mostContentWith_0 : decode cX3_mostContentWith 0 = .ok (.iconst 0, 1) := by decide +kernel
theorem dX3_mostContentWith_1 : decode cX3_mostContentWith 1 = .ok (.istore 5, 2) := by decide +kernel
theorem dX3_mostContentWith_3 : decode cX3_mostContentWith 3 = .ok (.iconst (-1), 1) := by decide +kernel
theorem dX3_mostContentWith_4 : decode cX3_mostContentWith 4 = .ok (.istore 6, 2) := by decide +kernel
theorem dX3_mostContentWith_6 : decode cX3_mostContentWith 6 = .ok (.iconst 0, 1) := by decide +kernel
theorem dX3_mostContentWith_7 : decode cX3_mostContentWith 7 = .ok (.istore 7, 2) := by decide +kernel
theorem dX3_mostContentWith_9 : decode cX3_mostContentWith 9 = .ok (.iload 7, 2) := by decide +kernel
theorem dX3_mostContentWith_11 : decode cX3_mostContentWith 11 = .ok (.iload_n 3, 1) := by decide +kernel
theorem dX3_mostContentWith_12 : decode cX3_mostContentWith 12 = .ok (.if_icmp .gt 50, 3) := by decide +kernel
theorem dX3_mostContentWith_15 : decode cX3_mostContentWith 15 = .ok (.aload_n 0, 1) := by decide +kernel
theorem dX3_mostContentWith_16 : decode cX3_mostContentWith 16 = .ok (.iload_n 1, 1) := by decide +kernel
theorem dX3_mostContentWith_17 : decode cX3_mostContentWith 17 = .ok (.iload_n 2, 1) := by decide +kernel
theorem dX3_mostContentWith_18 : decode cX3_mostContentWith 18 = .ok (.iload 7, 2) := by decide +kernel
theorem dX3_mostContentWith_20 : decode cX3_mostContentWith 20 = .ok (.invokevirtual 151, 3) := by decide +kernel
theorem dX3_mostContentWith_23 : decode cX3_mostContentWith 23 = .ok (.aload_n 0, 1) := by decide +kernel
theorem dX3_mostContentWith_24 : decode cX3_mostContentWith 24 = .ok (.getfield 16, 3) := by decide +kernel
theorem dX3_mostContentWith_27 : decode cX3_mostContentWith 27 = .ok (.iload 4, 2) := by decide +kernel
theorem dX3_mostContentWith_29 : decode cX3_mostContentWith 29 = .ok (.invokevirtual 131, 3) := by decide +kernel
theorem dX3_mostContentWith_32 : decode cX3_mostContentWith 32 = .ok (.aload_n 0, 1) := by decide +kernel
theorem dX3_mostContentWith_33 : decode cX3_mostContentWith 33 = .ok (.getfield 16, 3) := by decide +kernel
theorem dX3_mostContentWith_36 : decode cX3_mostContentWith 36 = .ok (.invokevirtual 145, 3) := by decide +kernel
theorem dX3_mostContentWith_39 : decode cX3_mostContentWith 39 = .ok (.istore 8, 2) := by decide +kernel
theorem dX3_mostContentWith_41 : decode cX3_mostContentWith 41 = .ok (.iload 8, 2) := by decide +kernel
theorem dX3_mostContentWith_43 : decode cX3_mostContentWith 43 = .ok (.iload 6, 2) := by decide +kernel
theorem dX3_mostContentWith_45 : decode cX3_mostContentWith 45 = .ok (.if_icmp .le 11, 3) := by decide +kernel
theorem dX3_mostContentWith_48 : decode cX3_mostContentWith 48 = .ok (.iload 8, 2) := by decide +kernel
theorem dX3_mostContentWith_50 : decode cX3_mostContentWith 50 = .ok (.istore 6, 2) := by decide +kernel
theorem dX3_mostContentWith_52 : decode cX3_mostContentWith 52 = .ok (.iload 7, 2) := by decide +kernel
theorem dX3_mostContentWith_54 : decode cX3_mostContentWith 54 = .ok (.istore 5, 2) := by decide +kernel
theorem dX3_mostContentWith_56 : decode cX3_mostContentWith 56 = .ok (.iinc 7 1, 3) := by decide +kernel
theorem dX3_mostContentWith_59 : decode cX3_mostContentWith 59 = .ok (.goto (-50), 3) := by decide +kernel
theorem dX3_mostContentWith_62 : decode cX3_mostContentWith 62 = .ok (.iload 5, 2) := by decide +kernel
theorem dX3_mostContentWith_64 : decode cX3_mostContentWith 64 = .ok (.ireturn, 1) := by decide +kernel
theorem dX3_gatherContentWith_0 : decode cX3_gatherContentWith 0 = .ok (.iconst 0, 1) := by decide +kernel
theorem dX3_gatherContentWith_1 : decode cX3_gatherContentWith 1 = .ok (.istore_n 2, 1) := by decide +kernel
theorem dX3_gatherContentWith_2 : decode cX3_gatherContentWith 2 = .ok (.iload_n 2, 1) := by decide +kernel
theorem dX3_gatherContentWith_3 : decode cX3_gatherContentWith 3 = .ok (.bipush 8, 2) := by decide +kernel
theorem dX3_gatherContentWith_5 : decode cX3_gatherContentWith 5 = .ok (.if_icmp .ge 16, 3) := by decide +kernel
theorem dX3_gatherContentWith_8 : decode cX3_gatherContentWith 8 = .ok (.aload_n 0, 1) := by decide +kernel
theorem dX3_gatherContentWith_9 : decode cX3_gatherContentWith 9 = .ok (.getfield 44, 3) := by decide +kernel
theorem dX3_gatherContentWith_12 : decode cX3_gatherContentWith 12 = .ok (.iload_n 2, 1) := by decide +kernel
theorem dX3_gatherContentWith_13 : decode cX3_gatherContentWith 13 = .ok (.iconst 0, 1) := by decide +kernel
theorem dX3_gatherContentWith_14 : decode cX3_gatherContentWith 14 = .ok (.iastore, 1) := by decide +kernel
theorem dX3_gatherContentWith_15 : decode cX3_gatherContentWith 15 = .ok (.iinc 2 1, 3) := by decide +kernel
theorem dX3_gatherContentWith_18 : decode cX3_gatherContentWith 18 = .ok (.goto (-16), 3) := by decide +kernel
theorem dX3_gatherContentWith_21 : decode cX3_gatherContentWith 21 = .ok (.aload_n 0, 1) := by decide +kernel
theorem dX3_gatherContentWith_22 : decode cX3_gatherContentWith 22 = .ok (.getfield 16, 3) := by decide +kernel
theorem dX3_gatherContentWith_25 : decode cX3_gatherContentWith 25 = .ok (.aload_n 0, 1) := by decide +kernel
theorem dX3_gatherContentWith_26 : decode cX3_gatherContentWith 26 = .ok (.getfield 10, 3) := by decide +kernel
theorem dX3_gatherContentWith_29 : decode cX3_gatherContentWith 29 = .ok (.invokevirtual 135, 3) := by decide +kernel
theorem dX3_gatherContentWith_32 : decode cX3_gatherContentWith 32 = .ok (.iconst 0, 1) := by decide +kernel
theorem dX3_gatherContentWith_33 : decode cX3_gatherContentWith 33 = .ok (.istore_n 2, 1) := by decide +kernel
theorem dX3_gatherContentWith_34 : decode cX3_gatherContentWith 34 = .ok (.iload_n 2, 1) := by decide +kernel
theorem dX3_gatherContentWith_35 : decode cX3_gatherContentWith 35 = .ok (.iload_n 1, 1) := by decide +kernel
theorem dX3_gatherContentWith_36 : decode cX3_gatherContentWith 36 = .ok (.if_icmp .gt 62, 3) := by decide +kernel
theorem dX3_gatherContentWith_39 : decode cX3_gatherContentWith 39 = .ok (.aload_n 0, 1) := by decide +kernel
theorem dX3_gatherContentWith_40 : decode cX3_gatherContentWith 40 = .ok (.getfield 16, 3) := by decide +kernel
theorem dX3_gatherContentWith_43 : decode cX3_gatherContentWith 43 = .ok (.invokevirtual 71, 3) := by decide +kernel
theorem dX3_gatherContentWith_46 : decode cX3_gatherContentWith 46 = .ok (.istore_n 3, 1) := by decide +kernel
theorem dX3_gatherContentWith_47 : decode cX3_gatherContentWith 47 = .ok (.iconst 0, 1) := by decide +kernel
theorem dX3_gatherContentWith_48 : decode cX3_gatherContentWith 48 = .ok (.istore 4, 2) := by decide +kernel
theorem dX3_gatherContentWith_50 : decode cX3_gatherContentWith 50 = .ok (.iload 4, 2) := by decide +kernel
theorem dX3_gatherContentWith_52 : decode cX3_gatherContentWith 52 = .ok (.bipush 8, 2) := by decide +kernel
theorem dX3_gatherContentWith_54 : decode cX3_gatherContentWith 54 = .ok (.if_icmp .ge 30, 3) := by decide +kernel
theorem dX3_gatherContentWith_57 : decode cX3_gatherContentWith 57 = .ok (.iload_n 3, 1) := by decide +kernel
theorem dX3_gatherContentWith_58 : decode cX3_gatherContentWith 58 = .ok (.iload 4, 2) := by decide +kernel
theorem dX3_gatherContentWith_60 : decode cX3_gatherContentWith 60 = .ok (.ishr, 1) := by decide +kernel
theorem dX3_gatherContentWith_61 : decode cX3_gatherContentWith 61 = .ok (.iconst 1, 1) := by decide +kernel
theorem dX3_gatherContentWith_62 : decode cX3_gatherContentWith 62 = .ok (.iand, 1) := by decide +kernel
theorem dX3_gatherContentWith_63 : decode cX3_gatherContentWith 63 = .ok (.iconst 1, 1) := by decide +kernel
theorem dX3_gatherContentWith_64 : decode cX3_gatherContentWith 64 = .ok (.if_icmp .ne 14, 3) := by decide +kernel
theorem dX3_gatherContentWith_67 : decode cX3_gatherContentWith 67 = .ok (.aload_n 0, 1) := by decide +kernel
theorem dX3_gatherContentWith_68 : decode cX3_gatherContentWith 68 = .ok (.getfield 44, 3) := by decide +kernel
theorem dX3_gatherContentWith_71 : decode cX3_gatherContentWith 71 = .ok (.iload 4, 2) := by decide +kernel
theorem dX3_gatherContentWith_73 : decode cX3_gatherContentWith 73 = .ok (.dup2, 1) := by decide +kernel
theorem dX3_gatherContentWith_74 : decode cX3_gatherContentWith 74 = .ok (.iaload, 1) := by decide +kernel
theorem dX3_gatherContentWith_75 : decode cX3_gatherContentWith 75 = .ok (.iload_n 3, 1) := by decide +kernel
theorem dX3_gatherContentWith_76 : decode cX3_gatherContentWith 76 = .ok (.ior, 1) := by decide +kernel
theorem dX3_gatherContentWith_77 : decode cX3_gatherContentWith 77 = .ok (.iastore, 1) := by decide +kernel
theorem dX3_gatherContentWith_78 : decode cX3_gatherContentWith 78 = .ok (.iinc 4 1, 3) := by decide +kernel
theorem dX3_gatherContentWith_81 : decode cX3_gatherContentWith 81 = .ok (.goto (-31), 3) := by decide +kernel
theorem dX3_gatherContentWith_84 : decode cX3_gatherContentWith 84 = .ok (.aload_n 0, 1) := by decide +kernel
theorem dX3_gatherContentWith_85 : decode cX3_gatherContentWith 85 = .ok (.getfield 16, 3) := by decide +kernel
theorem dX3_gatherContentWith_88 : decode cX3_gatherContentWith 88 = .ok (.iconst 1, 1) := by decide +kernel
theorem dX3_gatherContentWith_89 : decode cX3_gatherContentWith 89 = .ok (.invokevirtual 131, 3) := by decide +kernel
theorem dX3_gatherContentWith_92 : decode cX3_gatherContentWith 92 = .ok (.iinc 2 1, 3) := by decide +kernel
theorem dX3_gatherContentWith_95 : decode cX3_gatherContentWith 95 = .ok (.goto (-61), 3) := by decide +kernel
theorem dX3_gatherContentWith_98 : decode cX3_gatherContentWith 98 = .ok (.return_, 1) := by decide +kernel
theorem dX3_wantsClash_0 : decode cX3_wantsClash 0 = .ok (.iload_n 1, 1) := by decide +kernel
theorem dX3_wantsClash_1 : decode cX3_wantsClash 1 = .ok (.iconst 0, 1) := by decide +kernel
theorem dX3_wantsClash_2 : decode cX3_wantsClash 2 = .ok (.bipush 7, 2) := by decide +kernel
theorem dX3_wantsClash_4 : decode cX3_wantsClash 4 = .ok (.invokestatic 47, 3) := by decide +kernel
theorem dX3_wantsClash_7 : decode cX3_wantsClash 7 = .ok (.ifCond .ne 13, 3) := by decide +kernel
theorem dX3_wantsClash_10 : decode cX3_wantsClash 10 = .ok (.iload_n 2, 1) := by decide +kernel
theorem dX3_wantsClash_11 : decode cX3_wantsClash 11 = .ok (.iconst 0, 1) := by decide +kernel
theorem dX3_wantsClash_12 : decode cX3_wantsClash 12 = .ok (.bipush 7, 2) := by decide +kernel
theorem dX3_wantsClash_14 : decode cX3_wantsClash 14 = .ok (.invokestatic 47, 3) := by decide +kernel
theorem dX3_wantsClash_17 : decode cX3_wantsClash 17 = .ok (.ifCond .eq 5, 3) := by decide +kernel
theorem dX3_wantsClash_20 : decode cX3_wantsClash 20 = .ok (.iconst 0, 1) := by decide +kernel
theorem dX3_wantsClash_21 : decode cX3_wantsClash 21 = .ok (.ireturn, 1) := by decide +kernel
theorem dX3_wantsClash_22 : decode cX3_wantsClash 22 = .ok (.aload_n 0, 1) := by decide +kernel
theorem dX3_wantsClash_23 : decode cX3_wantsClash 23 = .ok (.getfield 44, 3) := by decide +kernel
theorem dX3_wantsClash_26 : decode cX3_wantsClash 26 = .ok (.iload_n 1, 1) := by decide +kernel
theorem dX3_wantsClash_27 : decode cX3_wantsClash 27 = .ok (.iaload, 1) := by decide +kernel
theorem dX3_wantsClash_28 : decode cX3_wantsClash 28 = .ok (.ifCond .eq 29, 3) := by decide +kernel
theorem dX3_wantsClash_31 : decode cX3_wantsClash 31 = .ok (.aload_n 0, 1) := by decide +kernel
theorem dX3_wantsClash_32 : decode cX3_wantsClash 32 = .ok (.getfield 44, 3) := by decide +kernel
theorem dX3_wantsClash_35 : decode cX3_wantsClash 35 = .ok (.iload_n 2, 1) := by decide +kernel
theorem dX3_wantsClash_36 : decode cX3_wantsClash 36 = .ok (.iaload, 1) := by decide +kernel
theorem dX3_wantsClash_37 : decode cX3_wantsClash 37 = .ok (.ifCond .eq 20, 3) := by decide +kernel
theorem dX3_wantsClash_40 : decode cX3_wantsClash 40 = .ok (.aload_n 0, 1) := by decide +kernel
theorem dX3_wantsClash_41 : decode cX3_wantsClash 41 = .ok (.getfield 44, 3) := by decide +kernel
theorem dX3_wantsClash_44 : decode cX3_wantsClash 44 = .ok (.iload_n 1, 1) := by decide +kernel
theorem dX3_wantsClash_45 : decode cX3_wantsClash 45 = .ok (.iaload, 1) := by decide +kernel
theorem dX3_wantsClash_46 : decode cX3_wantsClash 46 = .ok (.iload_n 2, 1) := by decide +kernel
theorem dX3_wantsClash_47 : decode cX3_wantsClash 47 = .ok (.ishr, 1) := by decide +kernel
theorem dX3_wantsClash_48 : decode cX3_wantsClash 48 = .ok (.iconst 1, 1) := by decide +kernel
theorem dX3_wantsClash_49 : decode cX3_wantsClash 49 = .ok (.iand, 1) := by decide +kernel
theorem dX3_wantsClash_50 : decode cX3_wantsClash 50 = .ok (.ifCond .ne 7, 3) := by decide +kernel
theorem dX3_wantsClash_53 : decode cX3_wantsClash 53 = .ok (.iconst 1, 1) := by decide +kernel
theorem dX3_wantsClash_54 : decode cX3_wantsClash 54 = .ok (.goto 4, 3) := by decide +kernel
theorem dX3_wantsClash_57 : decode cX3_wantsClash 57 = .ok (.iconst 0, 1) := by decide +kernel
theorem dX3_wantsClash_58 : decode cX3_wantsClash 58 = .ok (.ireturn, 1) := by decide +kernel
theorem dX3_trialGoesAs_0 : decode cX3_trialGoesAs 0 = .ok (.iconst 0, 1) := by decide +kernel
theorem dX3_trialGoesAs_1 : decode cX3_trialGoesAs 1 = .ok (.istore_n 3, 1) := by decide +kernel
theorem dX3_trialGoesAs_2 : decode cX3_trialGoesAs 2 = .ok (.iload_n 3, 1) := by decide +kernel
theorem dX3_trialGoesAs_3 : decode cX3_trialGoesAs 3 = .ok (.aload_n 1, 1) := by decide +kernel
theorem dX3_trialGoesAs_4 : decode cX3_trialGoesAs 4 = .ok (.getfield 184, 3) := by decide +kernel
theorem dX3_trialGoesAs_7 : decode cX3_trialGoesAs 7 = .ok (.if_icmp .ge 37, 3) := by decide +kernel
theorem dX3_trialGoesAs_10 : decode cX3_trialGoesAs 10 = .ok (.aload_n 1, 1) := by decide +kernel
theorem dX3_trialGoesAs_11 : decode cX3_trialGoesAs 11 = .ok (.iload_n 3, 1) := by decide +kernel
theorem dX3_trialGoesAs_12 : decode cX3_trialGoesAs 12 = .ok (.invokevirtual 189, 3) := by decide +kernel
theorem dX3_trialGoesAs_15 : decode cX3_trialGoesAs 15 = .ok (.aload_n 0, 1) := by decide +kernel
theorem dX3_trialGoesAs_16 : decode cX3_trialGoesAs 16 = .ok (.getfield 16, 3) := by decide +kernel
theorem dX3_trialGoesAs_19 : decode cX3_trialGoesAs 19 = .ok (.iload_n 2, 1) := by decide +kernel
theorem dX3_trialGoesAs_20 : decode cX3_trialGoesAs 20 = .ok (.invokevirtual 212, 3) := by decide +kernel
theorem dX3_trialGoesAs_23 : decode cX3_trialGoesAs 23 = .ok (.i2l, 1) := by decide +kernel
theorem dX3_trialGoesAs_24 : decode cX3_trialGoesAs 24 = .ok (.lcmp, 1) := by decide +kernel
theorem dX3_trialGoesAs_25 : decode cX3_trialGoesAs 25 = .ok (.ifCond .eq 5, 3) := by decide +kernel
theorem dX3_trialGoesAs_28 : decode cX3_trialGoesAs 28 = .ok (.iconst 0, 1) := by decide +kernel
theorem dX3_trialGoesAs_29 : decode cX3_trialGoesAs 29 = .ok (.ireturn, 1) := by decide +kernel
theorem dX3_trialGoesAs_30 : decode cX3_trialGoesAs 30 = .ok (.aload_n 0, 1) := by decide +kernel
theorem dX3_trialGoesAs_31 : decode cX3_trialGoesAs 31 = .ok (.getfield 16, 3) := by decide +kernel
theorem dX3_trialGoesAs_34 : decode cX3_trialGoesAs 34 = .ok (.iconst 1, 1) := by decide +kernel
theorem dX3_trialGoesAs_35 : decode cX3_trialGoesAs 35 = .ok (.invokevirtual 131, 3) := by decide +kernel
theorem dX3_trialGoesAs_38 : decode cX3_trialGoesAs 38 = .ok (.iinc 3 1, 3) := by decide +kernel
theorem dX3_trialGoesAs_41 : decode cX3_trialGoesAs 41 = .ok (.goto (-39), 3) := by decide +kernel
theorem dX3_trialGoesAs_44 : decode cX3_trialGoesAs 44 = .ok (.iconst 1, 1) := by decide +kernel
theorem dX3_trialGoesAs_45 : decode cX3_trialGoesAs 45 = .ok (.ireturn, 1) := by decide +kernel
end
section
theorem dX4_init_0 : decode cX4_init 0 = .ok (.aload_n 0, 1) := by decide +kernel
theorem dX4_init_1 : decode cX4_init 1 = .ok (.invokespecial 1, 3) := by decide +kernel
theorem dX4_init_4 : decode cX4_init 4 = .ok (.aload_n 0, 1) := by decide +kernel
theorem dX4_init_5 : decode cX4_init 5 = .ok (.bipush 75, 2) := by decide +kernel
theorem dX4_init_7 : decode cX4_init 7 = .ok (.newarray .int, 2) := by decide +kernel
theorem dX4_init_9 : decode cX4_init 9 = .ok (.putfield 7, 3) := by decide +kernel
theorem dX4_init_12 : decode cX4_init 12 = .ok (.aload_n 0, 1) := by decide +kernel
theorem dX4_init_13 : decode cX4_init 13 = .ok (.bipush 75, 2) := by decide +kernel
theorem dX4_init_15 : decode cX4_init 15 = .ok (.newarray .int, 2) := by decide +kernel
theorem dX4_init_17 : decode cX4_init 17 = .ok (.putfield 13, 3) := by decide +kernel
theorem dX4_init_20 : decode cX4_init 20 = .ok (.aload_n 0, 1) := by decide +kernel
theorem dX4_init_21 : decode cX4_init 21 = .ok (.bipush 75, 2) := by decide +kernel
theorem dX4_init_23 : decode cX4_init 23 = .ok (.newarray .int, 2) := by decide +kernel
theorem dX4_init_25 : decode cX4_init 25 = .ok (.putfield 16, 3) := by decide +kernel
theorem dX4_init_28 : decode cX4_init 28 = .ok (.aload_n 0, 1) := by decide +kernel
theorem dX4_init_29 : decode cX4_init 29 = .ok (.bipush 75, 2) := by decide +kernel
theorem dX4_init_31 : decode cX4_init 31 = .ok (.newarray .int, 2) := by decide +kernel
theorem dX4_init_33 : decode cX4_init 33 = .ok (.putfield 19, 3) := by decide +kernel
theorem dX4_init_36 : decode cX4_init 36 = .ok (.aload_n 0, 1) := by decide +kernel
theorem dX4_init_37 : decode cX4_init 37 = .ok (.bipush 7, 2) := by decide +kernel
theorem dX4_init_39 : decode cX4_init 39 = .ok (.newarray .int, 2) := by decide +kernel
theorem dX4_init_41 : decode cX4_init 41 = .ok (.putfield 22, 3) := by decide +kernel
theorem dX4_init_44 : decode cX4_init 44 = .ok (.aload_n 0, 1) := by decide +kernel
theorem dX4_init_45 : decode cX4_init 45 = .ok (.bipush 61, 2) := by decide +kernel
theorem dX4_init_47 : decode cX4_init 47 = .ok (.newarray .int, 2) := by decide +kernel
theorem dX4_init_49 : decode cX4_init 49 = .ok (.putfield 25, 3) := by decide +kernel
theorem dX4_init_52 : decode cX4_init 52 = .ok (.aload_n 0, 1) := by decide +kernel
theorem dX4_init_53 : decode cX4_init 53 = .ok (.bipush 120, 2) := by decide +kernel
theorem dX4_init_55 : decode cX4_init 55 = .ok (.newarray .int, 2) := by decide +kernel
theorem dX4_init_57 : decode cX4_init 57 = .ok (.putfield 28, 3) := by decide +kernel
theorem dX4_init_60 : decode cX4_init 60 = .ok (.aload_n 0, 1) := by decide +kernel
theorem dX4_init_61 : decode cX4_init 61 = .ok (.iconst 4, 1) := by decide +kernel
theorem dX4_init_62 : decode cX4_init 62 = .ok (.newarray .int, 2) := by decide +kernel
theorem dX4_init_64 : decode cX4_init 64 = .ok (.putfield 31, 3) := by decide +kernel
theorem dX4_init_67 : decode cX4_init 67 = .ok (.aload_n 0, 1) := by decide +kernel
theorem dX4_init_68 : decode cX4_init 68 = .ok (.iconst 4, 1) := by decide +kernel
theorem dX4_init_69 : decode cX4_init 69 = .ok (.newarray .int, 2) := by decide +kernel
theorem dX4_init_71 : decode cX4_init 71 = .ok (.putfield 34, 3) := by decide +kernel
theorem dX4_init_74 : decode cX4_init 74 = .ok (.aload_n 0, 1) := by decide +kernel
theorem dX4_init_75 : decode cX4_init 75 = .ok (.sipush 160, 3) := by decide +kernel
theorem dX4_init_78 : decode cX4_init 78 = .ok (.newarray .long, 2) := by decide +kernel
theorem dX4_init_80 : decode cX4_init 80 = .ok (.putfield 37, 3) := by decide +kernel
theorem dX4_init_83 : decode cX4_init 83 = .ok (.aload_n 0, 1) := by decide +kernel
theorem dX4_init_84 : decode cX4_init 84 = .ok (.bipush 40, 2) := by decide +kernel
theorem dX4_init_86 : decode cX4_init 86 = .ok (.newarray .long, 2) := by decide +kernel
theorem dX4_init_88 : decode cX4_init 88 = .ok (.putfield 41, 3) := by decide +kernel
theorem dX4_init_91 : decode cX4_init 91 = .ok (.aload_n 0, 1) := by decide +kernel
theorem dX4_init_92 : decode cX4_init 92 = .ok (.getfield 7, 3) := by decide +kernel
theorem dX4_init_95 : decode cX4_init 95 = .ok (.iconst 2, 1) := by decide +kernel
theorem dX4_init_96 : decode cX4_init 96 = .ok (.iconst 4, 1) := by decide +kernel
theorem dX4_init_97 : decode cX4_init 97 = .ok (.iastore, 1) := by decide +kernel
theorem dX4_init_98 : decode cX4_init 98 = .ok (.return_, 1) := by decide +kernel
theorem dX4_in_0 : decode cX4_in 0 = .ok (.lload_n 0, 1) := by decide +kernel
theorem dX4_in_1 : decode cX4_in 1 = .ok (.lload_n 2, 1) := by decide +kernel
theorem dX4_in_2 : decode cX4_in 2 = .ok (.lcmp, 1) := by decide +kernel
theorem dX4_in_3 : decode cX4_in 3 = .ok (.ifCond .lt 14, 3) := by decide +kernel
theorem dX4_in_6 : decode cX4_in 6 = .ok (.lload_n 0, 1) := by decide +kernel
theorem dX4_in_7 : decode cX4_in 7 = .ok (.lload 4, 2) := by decide +kernel
theorem dX4_in_9 : decode cX4_in 9 = .ok (.lcmp, 1) := by decide +kernel
theorem dX4_in_10 : decode cX4_in 10 = .ok (.ifCond .gt 7, 3) := by decide +kernel
theorem dX4_in_13 : decode cX4_in 13 = .ok (.iconst 1, 1) := by decide +kernel
theorem dX4_in_14 : decode cX4_in 14 = .ok (.goto 4, 3) := by decide +kernel
theorem dX4_in_17 : decode cX4_in 17 = .ok (.iconst 0, 1) := by decide +kernel
theorem dX4_in_18 : decode cX4_in 18 = .ok (.ireturn, 1) := by decide +kernel
theorem dX4_finds_0 : decode cX4_finds 0 = .ok (.aload_n 0, 1) := by decide +kernel
theorem dX4_finds_1 : decode cX4_finds 1 = .ok (.getfield 22, 3) := by decide +kernel
theorem dX4_finds_4 : decode cX4_finds 4 = .ok (.ldc 44, 2) := by decide +kernel
theorem dX4_finds_6 : decode cX4_finds 6 = .ok (.iload_n 1, 1) := by decide +kernel
theorem dX4_finds_7 : decode cX4_finds 7 = .ok (.isub, 1) := by decide +kernel
theorem dX4_finds_8 : decode cX4_finds 8 = .ok (.dup2, 1) := by decide +kernel
theorem dX4_finds_9 : decode cX4_finds 9 = .ok (.iaload, 1) := by decide +kernel
theorem dX4_finds_10 : decode cX4_finds 10 = .ok (.iconst 1, 1) := by decide +kernel
theorem dX4_finds_11 : decode cX4_finds 11 = .ok (.iadd, 1) := by decide +kernel
theorem dX4_finds_12 : decode cX4_finds 12 = .ok (.iastore, 1) := by decide +kernel
theorem dX4_finds_13 : decode cX4_finds 13 = .ok (.iload_n 1, 1) := by decide +kernel
theorem dX4_finds_14 : decode cX4_finds 14 = .ok (.ireturn, 1) := by decide +kernel
theorem dX4_saves_0 : decode cX4_saves 0 = .ok (.iconst 0, 1) := by decide +kernel
theorem dX4_saves_1 : decode cX4_saves 1 = .ok (.istore_n 1, 1) := by decide +kernel
theorem dX4_saves_2 : decode cX4_saves 2 = .ok (.iload_n 1, 1) := by decide +kernel
theorem dX4_saves_3 : decode cX4_saves 3 = .ok (.bipush 75, 2) := by decide +kernel
theorem dX4_saves_5 : decode cX4_saves 5 = .ok (.if_icmp .ge 21, 3) := by decide +kernel
theorem dX4_saves_8 : decode cX4_saves 8 = .ok (.aload_n 0, 1) := by decide +kernel
theorem dX4_saves_9 : decode cX4_saves 9 = .ok (.getfield 16, 3) := by decide +kernel
theorem dX4_saves_12 : decode cX4_saves 12 = .ok (.iload_n 1, 1) := by decide +kernel
theorem dX4_saves_13 : decode cX4_saves 13 = .ok (.aload_n 0, 1) := by decide +kernel
theorem dX4_saves_14 : decode cX4_saves 14 = .ok (.getfield 7, 3) := by decide +kernel
theorem dX4_saves_17 : decode cX4_saves 17 = .ok (.iload_n 1, 1) := by decide +kernel
theorem dX4_saves_18 : decode cX4_saves 18 = .ok (.iaload, 1) := by decide +kernel
theorem dX4_saves_19 : decode cX4_saves 19 = .ok (.iastore, 1) := by decide +kernel
theorem dX4_saves_20 : decode cX4_saves 20 = .ok (.iinc 1 1, 3) := by decide +kernel
theorem dX4_saves_23 : decode cX4_saves 23 = .ok (.goto (-21), 3) := by decide +kernel
theorem dX4_saves_26 : decode cX4_saves 26 = .ok (.return_, 1) := by decide +kernel
theorem dX4_putsBack_0 : decode cX4_putsBack 0 = .ok (.iconst 0, 1) := by decide +kernel
theorem dX4_putsBack_1 : decode cX4_putsBack 1 = .ok (.istore_n 1, 1) := by decide +kernel
theorem dX4_putsBack_2 : decode cX4_putsBack 2 = .ok (.iload_n 1, 1) := by decide +kernel
theorem dX4_putsBack_3 : decode cX4_putsBack 3 = .ok (.bipush 75, 2) := by decide +kernel
theorem dX4_putsBack_5 : decode cX4_putsBack 5 = .ok (.if_icmp .ge 21, 3) := by decide +kernel
theorem dX4_putsBack_8 : decode cX4_putsBack 8 = .ok (.aload_n 0, 1) := by decide +kernel
theorem dX4_putsBack_9 : decode cX4_putsBack 9 = .ok (.getfield 7, 3) := by decide +kernel
theorem dX4_putsBack_12 : decode cX4_putsBack 12 = .ok (.iload_n 1, 1) := by decide +kernel
theorem dX4_putsBack_13 : decode cX4_putsBack 13 = .ok (.aload_n 0, 1) := by decide +kernel
theorem dX4_putsBack_14 : decode cX4_putsBack 14 = .ok (.getfield 16, 3) := by decide +kernel
theorem dX4_putsBack_17 : decode cX4_putsBack 17 = .ok (.iload_n 1, 1) := by decide +kernel
theorem dX4_putsBack_18 : decode cX4_putsBack 18 = .ok (.iaload, 1) := by decide +kernel
theorem dX4_putsBack_19 : decode cX4_putsBack 19 = .ok (.iastore, 1) := by decide +kernel
theorem dX4_putsBack_20 : decode cX4_putsBack 20 = .ok (.iinc 1 1, 3) := by decide +kernel
theorem dX4_putsBack_23 : decode cX4_putsBack 23 = .ok (.goto (-21), 3) := by decide +kernel
theorem dX4_putsBack_26 : decode cX4_putsBack 26 = .ok (.return_, 1) := by decide +kernel
theorem dX4_laysAside_0 : decode cX4_laysAside 0 = .ok (.iconst 0, 1) := by decide +kernel
theorem dX4_laysAside_1 : decode cX4_laysAside 1 = .ok (.istore_n 1, 1) := by decide +kernel
theorem dX4_laysAside_2 : decode cX4_laysAside 2 = .ok (.iload_n 1, 1) := by decide +kernel
theorem dX4_laysAside_3 : decode cX4_laysAside 3 = .ok (.bipush 75, 2) := by decide +kernel
theorem dX4_laysAside_5 : decode cX4_laysAside 5 = .ok (.if_icmp .ge 21, 3) := by decide +kernel
theorem dX4_laysAside_8 : decode cX4_laysAside 8 = .ok (.aload_n 0, 1) := by decide +kernel
theorem dX4_laysAside_9 : decode cX4_laysAside 9 = .ok (.getfield 19, 3) := by decide +kernel
theorem dX4_laysAside_12 : decode cX4_laysAside 12 = .ok (.iload_n 1, 1) := by decide +kernel
theorem dX4_laysAside_13 : decode cX4_laysAside 13 = .ok (.aload_n 0, 1) := by decide +kernel
theorem dX4_laysAside_14 : decode cX4_laysAside 14 = .ok (.getfield 7, 3) := by decide +kernel
theorem dX4_laysAside_17 : decode cX4_laysAside 17 = .ok (.iload_n 1, 1) := by decide +kernel
theorem dX4_laysAside_18 : decode cX4_laysAside 18 = .ok (.iaload, 1) := by decide +kernel
theorem dX4_laysAside_19 : decode cX4_laysAside 19 = .ok (.iastore, 1) := by decide +kernel
theorem dX4_laysAside_20 : decode cX4_laysAside 20 = .ok (.iinc 1 1, 3) := by decide +kernel
theorem dX4_laysAside_23 : decode cX4_laysAside 23 = .ok (.goto (-21), 3) := by decide +kernel
theorem dX4_laysAside_26 : decode cX4_laysAside 26 = .ok (.return_, 1) := by decide +kernel
theorem dX4_takesBack_0 : decode cX4_takesBack 0 = .ok (.iconst 0, 1) := by decide +kernel
theorem dX4_takesBack_1 : decode cX4_takesBack 1 = .ok (.istore_n 2, 1) := by decide +kernel
theorem dX4_takesBack_2 : decode cX4_takesBack 2 = .ok (.iload_n 2, 1) := by decide +kernel
theorem dX4_takesBack_3 : decode cX4_takesBack 3 = .ok (.bipush 75, 2) := by decide +kernel
theorem dX4_takesBack_5 : decode cX4_takesBack 5 = .ok (.if_icmp .ge 21, 3) := by decide +kernel
theorem dX4_takesBack_8 : decode cX4_takesBack 8 = .ok (.aload_n 0, 1) := by decide +kernel
theorem dX4_takesBack_9 : decode cX4_takesBack 9 = .ok (.getfield 7, 3) := by decide +kernel
theorem dX4_takesBack_12 : decode cX4_takesBack 12 = .ok (.iload_n 2, 1) := by decide +kernel
theorem dX4_takesBack_13 : decode cX4_takesBack 13 = .ok (.aload_n 0, 1) := by decide +kernel
theorem dX4_takesBack_14 : decode cX4_takesBack 14 = .ok (.getfield 19, 3) := by decide +kernel
theorem dX4_takesBack_17 : decode cX4_takesBack 17 = .ok (.iload_n 2, 1) := by decide +kernel
theorem dX4_takesBack_18 : decode cX4_takesBack 18 = .ok (.iaload, 1) := by decide +kernel
theorem dX4_takesBack_19 : decode cX4_takesBack 19 = .ok (.iastore, 1) := by decide +kernel
theorem dX4_takesBack_20 : decode cX4_takesBack 20 = .ok (.iinc 2 1, 3) := by decide +kernel
theorem dX4_takesBack_23 : decode cX4_takesBack 23 = .ok (.goto (-21), 3) := by decide +kernel
theorem dX4_takesBack_26 : decode cX4_takesBack 26 = .ok (.iload_n 1, 1) := by decide +kernel
theorem dX4_takesBack_27 : decode cX4_takesBack 27 = .ok (.ireturn, 1) := by decide +kernel
theorem dX4_becomes_0 : decode cX4_becomes 0 = .ok (.aload_n 0, 1) := by decide +kernel
theorem dX4_becomes_1 : decode cX4_becomes 1 = .ok (.getfield 7, 3) := by decide +kernel
theorem dX4_becomes_4 : decode cX4_becomes 4 = .ok (.iload_n 1, 1) := by decide +kernel
theorem dX4_becomes_5 : decode cX4_becomes 5 = .ok (.iaload, 1) := by decide +kernel
theorem dX4_becomes_6 : decode cX4_becomes 6 = .ok (.istore_n 3, 1) := by decide +kernel
theorem dX4_becomes_7 : decode cX4_becomes 7 = .ok (.aload_n 0, 1) := by decide +kernel
theorem dX4_becomes_8 : decode cX4_becomes 8 = .ok (.getfield 7, 3) := by decide +kernel
theorem dX4_becomes_11 : decode cX4_becomes 11 = .ok (.iload_n 1, 1) := by decide +kernel
theorem dX4_becomes_12 : decode cX4_becomes 12 = .ok (.iload_n 2, 1) := by decide +kernel
theorem dX4_becomes_13 : decode cX4_becomes 13 = .ok (.iastore, 1) := by decide +kernel
theorem dX4_becomes_14 : decode cX4_becomes 14 = .ok (.iload_n 3, 1) := by decide +kernel
theorem dX4_becomes_15 : decode cX4_becomes 15 = .ok (.ireturn, 1) := by decide +kernel
theorem dX4_spot_0 : decode cX4_spot 0 = .ok (.iconst 3, 1) := by decide +kernel
theorem dX4_spot_1 : decode cX4_spot 1 = .ok (.bipush 9, 2) := by decide +kernel
theorem dX4_spot_3 : decode cX4_spot 3 = .ok (.iload_n 0, 1) := by decide +kernel
theorem dX4_spot_4 : decode cX4_spot 4 = .ok (.imul, 1) := by decide +kernel
theorem dX4_spot_5 : decode cX4_spot 5 = .ok (.iadd, 1) := by decide +kernel
theorem dX4_spot_6 : decode cX4_spot 6 = .ok (.iload_n 1, 1) := by decide +kernel
theorem dX4_spot_7 : decode cX4_spot 7 = .ok (.iadd, 1) := by decide +kernel
theorem dX4_spot_8 : decode cX4_spot 8 = .ok (.ireturn, 1) := by decide +kernel
theorem dX4_its_0 : decode cX4_its 0 = .ok (.aload_n 0, 1) := by decide +kernel
theorem dX4_its_1 : decode cX4_its 1 = .ok (.getfield 7, 3) := by decide +kernel
theorem dX4_its_4 : decode cX4_its 4 = .ok (.iload_n 1, 1) := by decide +kernel
theorem dX4_its_5 : decode cX4_its 5 = .ok (.iload_n 2, 1) := by decide +kernel
theorem dX4_its_6 : decode cX4_its 6 = .ok (.invokestatic 45, 3) := by decide +kernel
theorem dX4_its_9 : decode cX4_its 9 = .ok (.iaload, 1) := by decide +kernel
theorem dX4_its_10 : decode cX4_its 10 = .ok (.ireturn, 1) := by decide +kernel
theorem dX4_isFigure_0 : decode cX4_isFigure 0 = .ok (.iload_n 1, 1) := by decide +kernel
theorem dX4_isFigure_1 : decode cX4_isFigure 1 = .ok (.i2l, 1) := by decide +kernel
theorem dX4_isFigure_2 : decode cX4_isFigure 2 = .ok (.lconst 0, 1) := by decide +kernel
theorem dX4_isFigure_3 : decode cX4_isFigure 3 = .ok (.aload_n 0, 1) := by decide +kernel
theorem dX4_isFigure_4 : decode cX4_isFigure 4 = .ok (.getfield 7, 3) := by decide +kernel
theorem dX4_isFigure_7 : decode cX4_isFigure 7 = .ok (.iconst 1, 1) := by decide +kernel
theorem dX4_isFigure_8 : decode cX4_isFigure 8 = .ok (.iaload, 1) := by decide +kernel
theorem dX4_isFigure_9 : decode cX4_isFigure 9 = .ok (.iconst 1, 1) := by decide +kernel
theorem dX4_isFigure_10 : decode cX4_isFigure 10 = .ok (.isub, 1) := by decide +kernel
theorem dX4_isFigure_11 : decode cX4_isFigure 11 = .ok (.i2l, 1) := by decide +kernel
theorem dX4_isFigure_12 : decode cX4_isFigure 12 = .ok (.invokestatic 49, 3) := by decide +kernel
theorem dX4_isFigure_15 : decode cX4_isFigure 15 = .ok (.ireturn, 1) := by decide +kernel
theorem dX4_isKind_0 : decode cX4_isKind 0 = .ok (.iload_n 0, 1) := by decide +kernel
theorem dX4_isKind_1 : decode cX4_isKind 1 = .ok (.i2l, 1) := by decide +kernel
theorem dX4_isKind_2 : decode cX4_isKind 2 = .ok (.lconst 0, 1) := by decide +kernel
theorem dX4_isKind_3 : decode cX4_isKind 3 = .ok (.ldc2_w 53, 3) := by decide +kernel
theorem dX4_isKind_6 : decode cX4_isKind 6 = .ok (.invokestatic 49, 3) := by decide +kernel
theorem dX4_isKind_9 : decode cX4_isKind 9 = .ok (.ireturn, 1) := by decide +kernel
theorem dX4_held_0 : decode cX4_held 0 = .ok (.iload_n 0, 1) := by decide +kernel
theorem dX4_held_1 : decode cX4_held 1 = .ok (.iload_n 1, 1) := by decide +kernel
theorem dX4_held_2 : decode cX4_held 2 = .ok (.if_icmp .ge 7, 3) := by decide +kernel
theorem dX4_held_5 : decode cX4_held 5 = .ok (.iload_n 1, 1) := by decide +kernel
theorem dX4_held_6 : decode cX4_held 6 = .ok (.goto 13, 3) := by decide +kernel
theorem dX4_held_9 : decode cX4_held 9 = .ok (.iload_n 0, 1) := by decide +kernel
theorem dX4_held_10 : decode cX4_held 10 = .ok (.iload_n 2, 1) := by decide +kernel
theorem dX4_held_11 : decode cX4_held 11 = .ok (.if_icmp .le 7, 3) := by decide +kernel
theorem dX4_held_14 : decode cX4_held 14 = .ok (.iload_n 2, 1) := by decide +kernel
theorem dX4_held_15 : decode cX4_held 15 = .ok (.goto 4, 3) := by decide +kernel
theorem dX4_held_18 : decode cX4_held 18 = .ok (.iload_n 0, 1) := by decide +kernel
theorem dX4_held_19 : decode cX4_held 19 = .ok (.ireturn, 1) := by decide +kernel
theorem dX4_together_0 : decode cX4_together 0 = .ok (.iconst 0, 1) := by decide +kernel
theorem dX4_together_1 : decode cX4_together 1 = .ok (.istore_n 2, 1) := by decide +kernel
theorem dX4_together_2 : decode cX4_together 2 = .ok (.iconst 0, 1) := by decide +kernel
theorem dX4_together_3 : decode cX4_together 3 = .ok (.istore_n 3, 1) := by decide +kernel
theorem dX4_together_4 : decode cX4_together 4 = .ok (.iload_n 3, 1) := by decide +kernel
theorem dX4_together_5 : decode cX4_together 5 = .ok (.aload_n 0, 1) := by decide +kernel
theorem dX4_together_6 : decode cX4_together 6 = .ok (.getfield 7, 3) := by decide +kernel
theorem dX4_together_9 : decode cX4_together 9 = .ok (.iconst 1, 1) := by decide +kernel
theorem dX4_together_10 : decode cX4_together 10 = .ok (.iaload, 1) := by decide +kernel
theorem dX4_together_11 : decode cX4_together 11 = .ok (.if_icmp .ge 18, 3) := by decide +kernel
theorem dX4_together_14 : decode cX4_together 14 = .ok (.iload_n 2, 1) := by decide +kernel
theorem dX4_together_15 : decode cX4_together 15 = .ok (.aload_n 0, 1) := by decide +kernel
theorem dX4_together_16 : decode cX4_together 16 = .ok (.iload_n 3, 1) := by decide +kernel
theorem dX4_together_17 : decode cX4_together 17 = .ok (.iload_n 1, 1) := by decide +kernel
theorem dX4_together_18 : decode cX4_together 18 = .ok (.invokevirtual 55, 3) := by decide +kernel
theorem dX4_together_21 : decode cX4_together 21 = .ok (.iadd, 1) := by decide +kernel
theorem dX4_together_22 : decode cX4_together 22 = .ok (.istore_n 2, 1) := by decide +kernel
theorem dX4_together_23 : decode cX4_together 23 = .ok (.iinc 3 1, 3) := by decide +kernel
theorem dX4_together_26 : decode cX4_together 26 = .ok (.goto (-22), 3) := by decide +kernel
theorem dX4_together_29 : decode cX4_together 29 = .ok (.iload_n 2, 1) := by decide +kernel
theorem dX4_together_30 : decode cX4_together 30 = .ok (.ireturn, 1) := by decide +kernel
theorem dX4_tacky_0 : decode cX4_tacky 0 = .ok (.iload_n 1, 1) := by decide +kernel
theorem dX4_tacky_1 : decode cX4_tacky 1 = .ok (.i2l, 1) := by decide +kernel
theorem dX4_tacky_2 : decode cX4_tacky 2 = .ok (.lconst 0, 1) := by decide +kernel
theorem dX4_tacky_3 : decode cX4_tacky 3 = .ok (.ldc2_w 58, 3) := by decide +kernel
theorem dX4_tacky_6 : decode cX4_tacky 6 = .ok (.invokestatic 49, 3) := by decide +kernel
theorem dX4_tacky_9 : decode cX4_tacky 9 = .ok (.ifCond .eq 12, 3) := by decide +kernel
theorem dX4_tacky_12 : decode cX4_tacky 12 = .ok (.aload_n 0, 1) := by decide +kernel
theorem dX4_tacky_13 : decode cX4_tacky 13 = .ok (.iconst 2, 1) := by decide +kernel
theorem dX4_tacky_14 : decode cX4_tacky 14 = .ok (.iload_n 1, 1) := by decide +kernel
theorem dX4_tacky_15 : decode cX4_tacky 15 = .ok (.invokevirtual 60, 3) := by decide +kernel
theorem dX4_tacky_18 : decode cX4_tacky 18 = .ok (.goto 9, 3) := by decide +kernel
theorem dX4_tacky_21 : decode cX4_tacky 21 = .ok (.aload_n 0, 1) := by decide +kernel
theorem dX4_tacky_22 : decode cX4_tacky 22 = .ok (.ldc 44, 2) := by decide +kernel
theorem dX4_tacky_24 : decode cX4_tacky 24 = .ok (.invokevirtual 63, 3) := by decide +kernel
theorem dX4_tacky_27 : decode cX4_tacky 27 = .ok (.ireturn, 1) := by decide +kernel
theorem dX4_ofNight_0 : decode cX4_ofNight 0 = .ok (.aload_n 0, 1) := by decide +kernel
theorem dX4_ofNight_1 : decode cX4_ofNight 1 = .ok (.getfield 7, 3) := by decide +kernel
theorem dX4_ofNight_4 : decode cX4_ofNight 4 = .ok (.iconst 0, 1) := by decide +kernel
theorem dX4_ofNight_5 : decode cX4_ofNight 5 = .ok (.iaload, 1) := by decide +kernel
theorem dX4_ofNight_6 : decode cX4_ofNight 6 = .ok (.bipush 8, 2) := by decide +kernel
theorem dX4_ofNight_8 : decode cX4_ofNight 8 = .ok (.irem, 1) := by decide +kernel
theorem dX4_ofNight_9 : decode cX4_ofNight 9 = .ok (.ireturn, 1) := by decide +kernel
theorem dX4_isTacky_0 : decode cX4_isTacky 0 = .ok (.aload_n 0, 1) := by decide +kernel
theorem dX4_isTacky_1 : decode cX4_isTacky 1 = .ok (.invokevirtual 67, 3) := by decide +kernel
theorem dX4_isTacky_4 : decode cX4_isTacky 4 = .ok (.aload_n 0, 1) := by decide +kernel
theorem dX4_isTacky_5 : decode cX4_isTacky 5 = .ok (.getfield 7, 3) := by decide +kernel
theorem dX4_isTacky_8 : decode cX4_isTacky 8 = .ok (.iconst 2, 1) := by decide +kernel
theorem dX4_isTacky_9 : decode cX4_isTacky 9 = .ok (.iaload, 1) := by decide +kernel
theorem dX4_isTacky_10 : decode cX4_isTacky 10 = .ok (.if_icmp .lt 7, 3) := by decide +kernel
theorem dX4_isTacky_13 : decode cX4_isTacky 13 = .ok (.iconst 1, 1) := by decide +kernel
theorem dX4_isTacky_14 : decode cX4_isTacky 14 = .ok (.goto 4, 3) := by decide +kernel
theorem dX4_isTacky_17 : decode cX4_isTacky 17 = .ok (.iconst 0, 1) := by decide +kernel
theorem dX4_isTacky_18 : decode cX4_isTacky 18 = .ok (.ireturn, 1) := by decide +kernel
theorem dX4_apart_0 : decode cX4_apart 0 = .ok (.aload_n 0, 1) := by decide +kernel
theorem dX4_apart_1 : decode cX4_apart 1 = .ok (.iload_n 1, 1) := by decide +kernel
theorem dX4_apart_2 : decode cX4_apart 2 = .ok (.iconst 2, 1) := by decide +kernel
theorem dX4_apart_3 : decode cX4_apart 3 = .ok (.invokevirtual 55, 3) := by decide +kernel
theorem dX4_apart_6 : decode cX4_apart 6 = .ok (.aload_n 0, 1) := by decide +kernel
theorem dX4_apart_7 : decode cX4_apart 7 = .ok (.iload_n 2, 1) := by decide +kernel
theorem dX4_apart_8 : decode cX4_apart 8 = .ok (.iconst 2, 1) := by decide +kernel
theorem dX4_apart_9 : decode cX4_apart 9 = .ok (.invokevirtual 55, 3) := by decide +kernel
theorem dX4_apart_12 : decode cX4_apart 12 = .ok (.isub, 1) := by decide +kernel
theorem dX4_apart_13 : decode cX4_apart 13 = .ok (.istore_n 3, 1) := by decide +kernel
theorem dX4_apart_14 : decode cX4_apart 14 = .ok (.iload_n 3, 1) := by decide +kernel
theorem dX4_apart_15 : decode cX4_apart 15 = .ok (.ifCond .ge 9, 3) := by decide +kernel
theorem dX4_apart_18 : decode cX4_apart 18 = .ok (.iconst 0, 1) := by decide +kernel
theorem dX4_apart_19 : decode cX4_apart 19 = .ok (.iload_n 3, 1) := by decide +kernel
theorem dX4_apart_20 : decode cX4_apart 20 = .ok (.isub, 1) := by decide +kernel
theorem dX4_apart_21 : decode cX4_apart 21 = .ok (.goto 4, 3) := by decide +kernel
theorem dX4_apart_24 : decode cX4_apart 24 = .ok (.iload_n 3, 1) := by decide +kernel
theorem dX4_apart_25 : decode cX4_apart 25 = .ok (.ireturn, 1) := by decide +kernel
theorem dX4_isBeside_0 : decode cX4_isBeside 0 = .ok (.aload_n 0, 1) := by decide +kernel
theorem dX4_isBeside_1 : decode cX4_isBeside 1 = .ok (.iload_n 1, 1) := by decide +kernel
theorem dX4_isBeside_2 : decode cX4_isBeside 2 = .ok (.iconst 1, 1) := by decide +kernel
theorem dX4_isBeside_3 : decode cX4_isBeside 3 = .ok (.invokevirtual 55, 3) := by decide +kernel
theorem dX4_isBeside_6 : decode cX4_isBeside 6 = .ok (.aload_n 0, 1) := by decide +kernel
theorem dX4_isBeside_7 : decode cX4_isBeside 7 = .ok (.iload_n 2, 1) := by decide +kernel
theorem dX4_isBeside_8 : decode cX4_isBeside 8 = .ok (.iconst 1, 1) := by decide +kernel
theorem dX4_isBeside_9 : decode cX4_isBeside 9 = .ok (.invokevirtual 55, 3) := by decide +kernel
theorem dX4_isBeside_12 : decode cX4_isBeside 12 = .ok (.if_icmp .ne 7, 3) := by decide +kernel
theorem dX4_isBeside_15 : decode cX4_isBeside 15 = .ok (.iconst 1, 1) := by decide +kernel
theorem dX4_isBeside_16 : decode cX4_isBeside 16 = .ok (.goto 4, 3) := by decide +kernel
theorem dX4_isBeside_19 : decode cX4_isBeside 19 = .ok (.iconst 0, 1) := by decide +kernel
theorem dX4_isBeside_20 : decode cX4_isBeside 20 = .ok (.ireturn, 1) := by decide +kernel
theorem dX4_isWithWhom_0 : decode cX4_isWithWhom 0 = .ok (.aload_n 0, 1) := by decide +kernel
theorem dX4_isWithWhom_1 : decode cX4_isWithWhom 1 = .ok (.iload_n 1, 1) := by decide +kernel
theorem dX4_isWithWhom_2 : decode cX4_isWithWhom 2 = .ok (.bipush 6, 2) := by decide +kernel
theorem dX4_isWithWhom_4 : decode cX4_isWithWhom 4 = .ok (.invokevirtual 55, 3) := by decide +kernel
theorem dX4_isWithWhom_7 : decode cX4_isWithWhom 7 = .ok (.istore_n 2, 1) := by decide +kernel
theorem dX4_isWithWhom_8 : decode cX4_isWithWhom 8 = .ok (.iload_n 2, 1) := by decide +kernel
theorem dX4_isWithWhom_9 : decode cX4_isWithWhom 9 = .ok (.iconst (-1), 1) := by decide +kernel
theorem dX4_isWithWhom_10 : decode cX4_isWithWhom 10 = .ok (.if_icmp .eq 21, 3) := by decide +kernel
theorem dX4_isWithWhom_13 : decode cX4_isWithWhom 13 = .ok (.iload_n 2, 1) := by decide +kernel
theorem dX4_isWithWhom_14 : decode cX4_isWithWhom 14 = .ok (.iload_n 1, 1) := by decide +kernel
theorem dX4_isWithWhom_15 : decode cX4_isWithWhom 15 = .ok (.if_icmp .eq 16, 3) := by decide +kernel
theorem dX4_isWithWhom_18 : decode cX4_isWithWhom 18 = .ok (.aload_n 0, 1) := by decide +kernel
theorem dX4_isWithWhom_19 : decode cX4_isWithWhom 19 = .ok (.iload_n 1, 1) := by decide +kernel
theorem dX4_isWithWhom_20 : decode cX4_isWithWhom 20 = .ok (.iload_n 2, 1) := by decide +kernel
theorem dX4_isWithWhom_21 : decode cX4_isWithWhom 21 = .ok (.invokevirtual 71, 3) := by decide +kernel
theorem dX4_isWithWhom_24 : decode cX4_isWithWhom 24 = .ok (.ifCond .eq 7, 3) := by decide +kernel
theorem dX4_isWithWhom_27 : decode cX4_isWithWhom 27 = .ok (.iconst 1, 1) := by decide +kernel
theorem dX4_isWithWhom_28 : decode cX4_isWithWhom 28 = .ok (.goto 4, 3) := by decide +kernel
theorem dX4_isWithWhom_31 : decode cX4_isWithWhom 31 = .ok (.iconst 0, 1) := by decide +kernel
theorem dX4_isWithWhom_32 : decode cX4_isWithWhom 32 = .ok (.ireturn, 1) := by decide +kernel
theorem dX4_isContent_0 : decode cX4_isContent 0 = .ok (.aload_n 0, 1) := by decide +kernel
theorem dX4_isContent_1 : decode cX4_isContent 1 = .ok (.iload_n 1, 1) := by decide +kernel
theorem dX4_isContent_2 : decode cX4_isContent 2 = .ok (.iconst 5, 1) := by decide +kernel
theorem dX4_isContent_3 : decode cX4_isContent 3 = .ok (.invokevirtual 55, 3) := by decide +kernel
theorem dX4_isContent_6 : decode cX4_isContent 6 = .ok (.tableswitch 123 0 3 #[30, 47, 77, 108], 30) := by decide +kernel
theorem dX4_isContent_36 : decode cX4_isContent 36 = .ok (.aload_n 0, 1) := by decide +kernel
theorem dX4_isContent_37 : decode cX4_isContent 37 = .ok (.iload_n 1, 1) := by decide +kernel
theorem dX4_isContent_38 : decode cX4_isContent 38 = .ok (.iconst 3, 1) := by decide +kernel
theorem dX4_isContent_39 : decode cX4_isContent 39 = .ok (.invokevirtual 55, 3) := by decide +kernel
theorem dX4_isContent_42 : decode cX4_isContent 42 = .ok (.bipush 10, 2) := by decide +kernel
theorem dX4_isContent_44 : decode cX4_isContent 44 = .ok (.if_icmp .gt 7, 3) := by decide +kernel
theorem dX4_isContent_47 : decode cX4_isContent 47 = .ok (.iconst 1, 1) := by decide +kernel
theorem dX4_isContent_48 : decode cX4_isContent 48 = .ok (.goto 4, 3) := by decide +kernel
theorem dX4_isContent_51 : decode cX4_isContent 51 = .ok (.iconst 0, 1) := by decide +kernel
theorem dX4_isContent_52 : decode cX4_isContent 52 = .ok (.ireturn, 1) := by decide +kernel
theorem dX4_isContent_53 : decode cX4_isContent 53 = .ok (.aload_n 0, 1) := by decide +kernel
theorem dX4_isContent_54 : decode cX4_isContent 54 = .ok (.iload_n 1, 1) := by decide +kernel
theorem dX4_isContent_55 : decode cX4_isContent 55 = .ok (.invokevirtual 75, 3) := by decide +kernel
theorem dX4_isContent_58 : decode cX4_isContent 58 = .ok (.ifCond .eq 19, 3) := by decide +kernel
theorem dX4_isContent_61 : decode cX4_isContent 61 = .ok (.aload_n 0, 1) := by decide +kernel
theorem dX4_isContent_62 : decode cX4_isContent 62 = .ok (.iload_n 1, 1) := by decide +kernel
theorem dX4_isContent_63 : decode cX4_isContent 63 = .ok (.aload_n 0, 1) := by decide +kernel
theorem dX4_isContent_64 : decode cX4_isContent 64 = .ok (.iload_n 1, 1) := by decide +kernel
theorem dX4_isContent_65 : decode cX4_isContent 65 = .ok (.bipush 6, 2) := by decide +kernel
theorem dX4_isContent_67 : decode cX4_isContent 67 = .ok (.invokevirtual 55, 3) := by decide +kernel
theorem dX4_isContent_70 : decode cX4_isContent 70 = .ok (.invokevirtual 79, 3) := by decide +kernel
theorem dX4_isContent_73 : decode cX4_isContent 73 = .ok (.iconst 1, 1) := by decide +kernel
theorem dX4_isContent_74 : decode cX4_isContent 74 = .ok (.if_icmp .gt 7, 3) := by decide +kernel
theorem dX4_isContent_77 : decode cX4_isContent 77 = .ok (.iconst 1, 1) := by decide +kernel
theorem dX4_isContent_78 : decode cX4_isContent 78 = .ok (.goto 4, 3) := by decide +kernel
theorem dX4_isContent_81 : decode cX4_isContent 81 = .ok (.iconst 0, 1) := by decide +kernel
theorem dX4_isContent_82 : decode cX4_isContent 82 = .ok (.ireturn, 1) := by decide +kernel
theorem dX4_isContent_83 : decode cX4_isContent 83 = .ok (.aload_n 0, 1) := by decide +kernel
theorem dX4_isContent_84 : decode cX4_isContent 84 = .ok (.iload_n 1, 1) := by decide +kernel
theorem dX4_isContent_85 : decode cX4_isContent 85 = .ok (.invokevirtual 75, 3) := by decide +kernel
theorem dX4_isContent_88 : decode cX4_isContent 88 = .ok (.ifCond .eq 20, 3) := by decide +kernel
theorem dX4_isContent_91 : decode cX4_isContent 91 = .ok (.aload_n 0, 1) := by decide +kernel
theorem dX4_isContent_92 : decode cX4_isContent 92 = .ok (.iload_n 1, 1) := by decide +kernel
theorem dX4_isContent_93 : decode cX4_isContent 93 = .ok (.aload_n 0, 1) := by decide +kernel
theorem dX4_isContent_94 : decode cX4_isContent 94 = .ok (.iload_n 1, 1) := by decide +kernel
theorem dX4_isContent_95 : decode cX4_isContent 95 = .ok (.bipush 6, 2) := by decide +kernel
theorem dX4_isContent_97 : decode cX4_isContent 97 = .ok (.invokevirtual 55, 3) := by decide +kernel
theorem dX4_isContent_100 : decode cX4_isContent 100 = .ok (.invokevirtual 79, 3) := by decide +kernel
theorem dX4_isContent_103 : decode cX4_isContent 103 = .ok (.bipush 10, 2) := by decide +kernel
theorem dX4_isContent_105 : decode cX4_isContent 105 = .ok (.if_icmp .lt 7, 3) := by decide +kernel
theorem dX4_isContent_108 : decode cX4_isContent 108 = .ok (.iconst 1, 1) := by decide +kernel
theorem dX4_isContent_109 : decode cX4_isContent 109 = .ok (.goto 4, 3) := by decide +kernel
theorem dX4_isContent_112 : decode cX4_isContent 112 = .ok (.iconst 0, 1) := by decide +kernel
theorem dX4_isContent_113 : decode cX4_isContent 113 = .ok (.ireturn, 1) := by decide +kernel
theorem dX4_isContent_114 : decode cX4_isContent 114 = .ok (.aload_n 0, 1) := by decide +kernel
theorem dX4_isContent_115 : decode cX4_isContent 115 = .ok (.iload_n 1, 1) := by decide +kernel
theorem dX4_isContent_116 : decode cX4_isContent 116 = .ok (.iconst 4, 1) := by decide +kernel
theorem dX4_isContent_117 : decode cX4_isContent 117 = .ok (.invokevirtual 55, 3) := by decide +kernel
theorem dX4_isContent_120 : decode cX4_isContent 120 = .ok (.ifCond .ne 7, 3) := by decide +kernel
theorem dX4_isContent_123 : decode cX4_isContent 123 = .ok (.iconst 1, 1) := by decide +kernel
theorem dX4_isContent_124 : decode cX4_isContent 124 = .ok (.goto 4, 3) := by decide +kernel
theorem dX4_isContent_127 : decode cX4_isContent 127 = .ok (.iconst 0, 1) := by decide +kernel
theorem dX4_isContent_128 : decode cX4_isContent 128 = .ok (.ireturn, 1) := by decide +kernel
theorem dX4_isContent_129 : decode cX4_isContent 129 = .ok (.aload_n 0, 1) := by decide +kernel
theorem dX4_isContent_130 : decode cX4_isContent 130 = .ok (.iload_n 1, 1) := by decide +kernel
theorem dX4_isContent_131 : decode cX4_isContent 131 = .ok (.iconst 4, 1) := by decide +kernel
theorem dX4_isContent_132 : decode cX4_isContent 132 = .ok (.invokevirtual 55, 3) := by decide +kernel
theorem dX4_isContent_135 : decode cX4_isContent 135 = .ok (.iconst 1, 1) := by decide +kernel
theorem dX4_isContent_136 : decode cX4_isContent 136 = .ok (.if_icmp .ne 7, 3) := by decide +kernel
theorem dX4_isContent_139 : decode cX4_isContent 139 = .ok (.iconst 1, 1) := by decide +kernel
theorem dX4_isContent_140 : decode cX4_isContent 140 = .ok (.goto 4, 3) := by decide +kernel
theorem dX4_isContent_143 : decode cX4_isContent 143 = .ok (.iconst 0, 1) := by decide +kernel
theorem dX4_isContent_144 : decode cX4_isContent 144 = .ok (.ireturn, 1) := by decide +kernel
theorem dX4_lampsOn_0 : decode cX4_lampsOn 0 = .ok (.iconst 0, 1) := by decide +kernel
theorem dX4_lampsOn_1 : decode cX4_lampsOn 1 = .ok (.istore_n 2, 1) := by decide +kernel
theorem dX4_lampsOn_2 : decode cX4_lampsOn 2 = .ok (.iconst 0, 1) := by decide +kernel
theorem dX4_lampsOn_3 : decode cX4_lampsOn 3 = .ok (.istore_n 3, 1) := by decide +kernel
theorem dX4_lampsOn_4 : decode cX4_lampsOn 4 = .ok (.iload_n 3, 1) := by decide +kernel
theorem dX4_lampsOn_5 : decode cX4_lampsOn 5 = .ok (.aload_n 0, 1) := by decide +kernel
theorem dX4_lampsOn_6 : decode cX4_lampsOn 6 = .ok (.getfield 7, 3) := by decide +kernel
theorem dX4_lampsOn_9 : decode cX4_lampsOn 9 = .ok (.iconst 1, 1) := by decide +kernel
theorem dX4_lampsOn_10 : decode cX4_lampsOn 10 = .ok (.iaload, 1) := by decide +kernel
theorem dX4_lampsOn_11 : decode cX4_lampsOn 11 = .ok (.if_icmp .ge 48, 3) := by decide +kernel
theorem dX4_lampsOn_14 : decode cX4_lampsOn 14 = .ok (.iload_n 2, 1) := by decide +kernel
theorem dX4_lampsOn_15 : decode cX4_lampsOn 15 = .ok (.aload_n 0, 1) := by decide +kernel
theorem dX4_lampsOn_16 : decode cX4_lampsOn 16 = .ok (.iload_n 1, 1) := by decide +kernel
theorem dX4_lampsOn_17 : decode cX4_lampsOn 17 = .ok (.iload_n 3, 1) := by decide +kernel
theorem dX4_lampsOn_18 : decode cX4_lampsOn 18 = .ok (.invokevirtual 71, 3) := by decide +kernel
theorem dX4_lampsOn_21 : decode cX4_lampsOn 21 = .ok (.ifCond .eq 29, 3) := by decide +kernel
theorem dX4_lampsOn_24 : decode cX4_lampsOn 24 = .ok (.aload_n 0, 1) := by decide +kernel
theorem dX4_lampsOn_25 : decode cX4_lampsOn 25 = .ok (.iload_n 3, 1) := by decide +kernel
theorem dX4_lampsOn_26 : decode cX4_lampsOn 26 = .ok (.iconst 4, 1) := by decide +kernel
theorem dX4_lampsOn_27 : decode cX4_lampsOn 27 = .ok (.invokevirtual 55, 3) := by decide +kernel
theorem dX4_lampsOn_30 : decode cX4_lampsOn 30 = .ok (.iconst 1, 1) := by decide +kernel
theorem dX4_lampsOn_31 : decode cX4_lampsOn 31 = .ok (.if_icmp .ne 19, 3) := by decide +kernel
theorem dX4_lampsOn_34 : decode cX4_lampsOn 34 = .ok (.aload_n 0, 1) := by decide +kernel
theorem dX4_lampsOn_35 : decode cX4_lampsOn 35 = .ok (.iload_n 1, 1) := by decide +kernel
theorem dX4_lampsOn_36 : decode cX4_lampsOn 36 = .ok (.iload_n 3, 1) := by decide +kernel
theorem dX4_lampsOn_37 : decode cX4_lampsOn 37 = .ok (.invokevirtual 79, 3) := by decide +kernel
theorem dX4_lampsOn_40 : decode cX4_lampsOn 40 = .ok (.iconst 3, 1) := by decide +kernel
theorem dX4_lampsOn_41 : decode cX4_lampsOn 41 = .ok (.if_icmp .gt 9, 3) := by decide +kernel
theorem dX4_lampsOn_44 : decode cX4_lampsOn 44 = .ok (.iconst 1, 1) := by decide +kernel
theorem dX4_lampsOn_45 : decode cX4_lampsOn 45 = .ok (.iload_n 3, 1) := by decide +kernel
theorem dX4_lampsOn_46 : decode cX4_lampsOn 46 = .ok (.ishl, 1) := by decide +kernel
theorem dX4_lampsOn_47 : decode cX4_lampsOn 47 = .ok (.goto 4, 3) := by decide +kernel
theorem dX4_lampsOn_50 : decode cX4_lampsOn 50 = .ok (.iconst 0, 1) := by decide +kernel
theorem dX4_lampsOn_51 : decode cX4_lampsOn 51 = .ok (.ior, 1) := by decide +kernel
theorem dX4_lampsOn_52 : decode cX4_lampsOn 52 = .ok (.istore_n 2, 1) := by decide +kernel
theorem dX4_lampsOn_53 : decode cX4_lampsOn 53 = .ok (.iinc 3 1, 3) := by decide +kernel
theorem dX4_lampsOn_56 : decode cX4_lampsOn 56 = .ok (.goto (-52), 3) := by decide +kernel
theorem dX4_lampsOn_59 : decode cX4_lampsOn 59 = .ok (.iload_n 2, 1) := by decide +kernel
theorem dX4_lampsOn_60 : decode cX4_lampsOn 60 = .ok (.ireturn, 1) := by decide +kernel
theorem dX4_beside_0 : decode cX4_beside 0 = .ok (.iconst 0, 1) := by decide +kernel
theorem dX4_beside_1 : decode cX4_beside 1 = .ok (.istore_n 2, 1) := by decide +kernel
theorem dX4_beside_2 : decode cX4_beside 2 = .ok (.iconst 0, 1) := by decide +kernel
theorem dX4_beside_3 : decode cX4_beside 3 = .ok (.istore_n 3, 1) := by decide +kernel
theorem dX4_beside_4 : decode cX4_beside 4 = .ok (.iload_n 3, 1) := by decide +kernel
theorem dX4_beside_5 : decode cX4_beside 5 = .ok (.aload_n 0, 1) := by decide +kernel
theorem dX4_beside_6 : decode cX4_beside 6 = .ok (.getfield 7, 3) := by decide +kernel
theorem dX4_beside_9 : decode cX4_beside 9 = .ok (.iconst 1, 1) := by decide +kernel
theorem dX4_beside_10 : decode cX4_beside 10 = .ok (.iaload, 1) := by decide +kernel
theorem dX4_beside_11 : decode cX4_beside 11 = .ok (.if_icmp .ge 31, 3) := by decide +kernel
theorem dX4_beside_14 : decode cX4_beside 14 = .ok (.iload_n 2, 1) := by decide +kernel
theorem dX4_beside_15 : decode cX4_beside 15 = .ok (.iload_n 3, 1) := by decide +kernel
theorem dX4_beside_16 : decode cX4_beside 16 = .ok (.iload_n 1, 1) := by decide +kernel
theorem dX4_beside_17 : decode cX4_beside 17 = .ok (.if_icmp .eq 16, 3) := by decide +kernel
theorem dX4_beside_20 : decode cX4_beside 20 = .ok (.aload_n 0, 1) := by decide +kernel
theorem dX4_beside_21 : decode cX4_beside 21 = .ok (.iload_n 1, 1) := by decide +kernel
theorem dX4_beside_22 : decode cX4_beside 22 = .ok (.iload_n 3, 1) := by decide +kernel
theorem dX4_beside_23 : decode cX4_beside 23 = .ok (.invokevirtual 71, 3) := by decide +kernel
theorem dX4_beside_26 : decode cX4_beside 26 = .ok (.ifCond .eq 7, 3) := by decide +kernel
theorem dX4_beside_29 : decode cX4_beside 29 = .ok (.iconst 1, 1) := by decide +kernel
theorem dX4_beside_30 : decode cX4_beside 30 = .ok (.goto 4, 3) := by decide +kernel
theorem dX4_beside_33 : decode cX4_beside 33 = .ok (.iconst 0, 1) := by decide +kernel
theorem dX4_beside_34 : decode cX4_beside 34 = .ok (.iadd, 1) := by decide +kernel
theorem dX4_beside_35 : decode cX4_beside 35 = .ok (.istore_n 2, 1) := by decide +kernel
theorem dX4_beside_36 : decode cX4_beside 36 = .ok (.iinc 3 1, 3) := by decide +kernel
theorem dX4_beside_39 : decode cX4_beside 39 = .ok (.goto (-35), 3) := by decide +kernel
theorem dX4_beside_42 : decode cX4_beside 42 = .ok (.iload_n 2, 1) := by decide +kernel
theorem dX4_beside_43 : decode cX4_beside 43 = .ok (.ireturn, 1) := by decide +kernel
theorem dX4_isAnyOtherCross_0 : decode cX4_isAnyOtherCross 0 = .ok (.iconst 0, 1) := by decide +kernel
theorem dX4_isAnyOtherCross_1 : decode cX4_isAnyOtherCross 1 = .ok (.istore_n 2, 1) := by decide +kernel
theorem dX4_isAnyOtherCross_2 : decode cX4_isAnyOtherCross 2 = .ok (.iconst 0, 1) := by decide +kernel
theorem dX4_isAnyOtherCross_3 : decode cX4_isAnyOtherCross 3 = .ok (.istore_n 3, 1) := by decide +kernel
theorem dX4_isAnyOtherCross_4 : decode cX4_isAnyOtherCross 4 = .ok (.iload_n 3, 1) := by decide +kernel
theorem dX4_isAnyOtherCross_5 : decode cX4_isAnyOtherCross 5 = .ok (.aload_n 0, 1) := by decide +kernel
theorem dX4_isAnyOtherCross_6 : decode cX4_isAnyOtherCross 6 = .ok (.getfield 7, 3) := by decide +kernel
theorem dX4_isAnyOtherCross_9 : decode cX4_isAnyOtherCross 9 = .ok (.iconst 1, 1) := by decide +kernel
theorem dX4_isAnyOtherCross_10 : decode cX4_isAnyOtherCross 10 = .ok (.iaload, 1) := by decide +kernel
theorem dX4_isAnyOtherCross_11 : decode cX4_isAnyOtherCross 11 = .ok (.if_icmp .ge 39, 3) := by decide +kernel
theorem dX4_isAnyOtherCross_14 : decode cX4_isAnyOtherCross 14 = .ok (.iload_n 2, 1) := by decide +kernel
theorem dX4_isAnyOtherCross_15 : decode cX4_isAnyOtherCross 15 = .ok (.iload_n 3, 1) := by decide +kernel
theorem dX4_isAnyOtherCross_16 : decode cX4_isAnyOtherCross 16 = .ok (.iload_n 1, 1) := by decide +kernel
theorem dX4_isAnyOtherCross_17 : decode cX4_isAnyOtherCross 17 = .ok (.if_icmp .eq 24, 3) := by decide +kernel
theorem dX4_isAnyOtherCross_20 : decode cX4_isAnyOtherCross 20 = .ok (.aload_n 0, 1) := by decide +kernel
theorem dX4_isAnyOtherCross_21 : decode cX4_isAnyOtherCross 21 = .ok (.iload_n 1, 1) := by decide +kernel
theorem dX4_isAnyOtherCross_22 : decode cX4_isAnyOtherCross 22 = .ok (.iload_n 3, 1) := by decide +kernel
theorem dX4_isAnyOtherCross_23 : decode cX4_isAnyOtherCross 23 = .ok (.invokevirtual 71, 3) := by decide +kernel
theorem dX4_isAnyOtherCross_26 : decode cX4_isAnyOtherCross 26 = .ok (.ifCond .eq 15, 3) := by decide +kernel
theorem dX4_isAnyOtherCross_29 : decode cX4_isAnyOtherCross 29 = .ok (.aload_n 0, 1) := by decide +kernel
theorem dX4_isAnyOtherCross_30 : decode cX4_isAnyOtherCross 30 = .ok (.iload_n 3, 1) := by decide +kernel
theorem dX4_isAnyOtherCross_31 : decode cX4_isAnyOtherCross 31 = .ok (.invokevirtual 82, 3) := by decide +kernel
theorem dX4_isAnyOtherCross_34 : decode cX4_isAnyOtherCross 34 = .ok (.ifCond .ne 7, 3) := by decide +kernel
theorem dX4_isAnyOtherCross_37 : decode cX4_isAnyOtherCross 37 = .ok (.iconst 1, 1) := by decide +kernel
theorem dX4_isAnyOtherCross_38 : decode cX4_isAnyOtherCross 38 = .ok (.goto 4, 3) := by decide +kernel
theorem dX4_isAnyOtherCross_41 : decode cX4_isAnyOtherCross 41 = .ok (.iconst 0, 1) := by decide +kernel
theorem dX4_isAnyOtherCross_42 : decode cX4_isAnyOtherCross 42 = .ok (.ior, 1) := by decide +kernel
theorem dX4_isAnyOtherCross_43 : decode cX4_isAnyOtherCross 43 = .ok (.istore_n 2, 1) := by decide +kernel
theorem dX4_isAnyOtherCross_44 : decode cX4_isAnyOtherCross 44 = .ok (.iinc 3 1, 3) := by decide +kernel
theorem dX4_isAnyOtherCross_47 : decode cX4_isAnyOtherCross 47 = .ok (.goto (-43), 3) := by decide +kernel
theorem dX4_isAnyOtherCross_50 : decode cX4_isAnyOtherCross 50 = .ok (.iload_n 2, 1) := by decide +kernel
theorem dX4_isAnyOtherCross_51 : decode cX4_isAnyOtherCross 51 = .ok (.ireturn, 1) := by decide +kernel
theorem dX4_rubsOf_0 : decode cX4_rubsOf 0 = .ok (.aload_n 0, 1) := by decide +kernel
theorem dX4_rubsOf_1 : decode cX4_rubsOf 1 = .ok (.invokevirtual 85, 3) := by decide +kernel
theorem dX4_rubsOf_4 : decode cX4_rubsOf 4 = .ok (.ifCond .eq 7, 3) := by decide +kernel
theorem dX4_rubsOf_7 : decode cX4_rubsOf 7 = .ok (.iconst 2, 1) := by decide +kernel
theorem dX4_rubsOf_8 : decode cX4_rubsOf 8 = .ok (.goto 4, 3) := by decide +kernel
theorem dX4_rubsOf_11 : decode cX4_rubsOf 11 = .ok (.iconst 4, 1) := by decide +kernel
theorem dX4_rubsOf_12 : decode cX4_rubsOf 12 = .ok (.istore_n 2, 1) := by decide +kernel
theorem dX4_rubsOf_13 : decode cX4_rubsOf 13 = .ok (.iload_n 2, 1) := by decide +kernel
theorem dX4_rubsOf_14 : decode cX4_rubsOf 14 = .ok (.aload_n 0, 1) := by decide +kernel
theorem dX4_rubsOf_15 : decode cX4_rubsOf 15 = .ok (.iload_n 1, 1) := by decide +kernel
theorem dX4_rubsOf_16 : decode cX4_rubsOf 16 = .ok (.iconst 3, 1) := by decide +kernel
theorem dX4_rubsOf_17 : decode cX4_rubsOf 17 = .ok (.invokevirtual 55, 3) := by decide +kernel
theorem dX4_rubsOf_20 : decode cX4_rubsOf 20 = .ok (.bipush 20, 2) := by decide +kernel
theorem dX4_rubsOf_22 : decode cX4_rubsOf 22 = .ok (.idiv, 1) := by decide +kernel
theorem dX4_rubsOf_23 : decode cX4_rubsOf 23 = .ok (.iadd, 1) := by decide +kernel
theorem dX4_rubsOf_24 : decode cX4_rubsOf 24 = .ok (.istore_n 3, 1) := by decide +kernel
theorem dX4_rubsOf_25 : decode cX4_rubsOf 25 = .ok (.aload_n 0, 1) := by decide +kernel
theorem dX4_rubsOf_26 : decode cX4_rubsOf 26 = .ok (.iload_n 1, 1) := by decide +kernel
theorem dX4_rubsOf_27 : decode cX4_rubsOf 27 = .ok (.iconst 0, 1) := by decide +kernel
theorem dX4_rubsOf_28 : decode cX4_rubsOf 28 = .ok (.invokevirtual 55, 3) := by decide +kernel
theorem dX4_rubsOf_31 : decode cX4_rubsOf 31 = .ok (.tableswitch 60 1 5 #[33, 60, 35, 37, 52], 33) := by decide +kernel
theorem dX4_rubsOf_64 : decode cX4_rubsOf 64 = .ok (.iload_n 3, 1) := by decide +kernel
theorem dX4_rubsOf_65 : decode cX4_rubsOf 65 = .ok (.ireturn, 1) := by decide +kernel
theorem dX4_rubsOf_66 : decode cX4_rubsOf 66 = .ok (.iconst 0, 1) := by decide +kernel
theorem dX4_rubsOf_67 : decode cX4_rubsOf 67 = .ok (.ireturn, 1) := by decide +kernel
theorem dX4_rubsOf_68 : decode cX4_rubsOf 68 = .ok (.aload_n 0, 1) := by decide +kernel
theorem dX4_rubsOf_69 : decode cX4_rubsOf 69 = .ok (.invokevirtual 85, 3) := by decide +kernel
theorem dX4_rubsOf_72 : decode cX4_rubsOf 72 = .ok (.ifCond .eq 7, 3) := by decide +kernel
theorem dX4_rubsOf_75 : decode cX4_rubsOf 75 = .ok (.iload_n 3, 1) := by decide +kernel
theorem dX4_rubsOf_76 : decode cX4_rubsOf 76 = .ok (.goto 6, 3) := by decide +kernel
theorem dX4_rubsOf_79 : decode cX4_rubsOf 79 = .ok (.iconst 2, 1) := by decide +kernel
theorem dX4_rubsOf_80 : decode cX4_rubsOf 80 = .ok (.iload_n 3, 1) := by decide +kernel
theorem dX4_rubsOf_81 : decode cX4_rubsOf 81 = .ok (.imul, 1) := by decide +kernel
theorem dX4_rubsOf_82 : decode cX4_rubsOf 82 = .ok (.ireturn, 1) := by decide +kernel
theorem dX4_rubsOf_83 : decode cX4_rubsOf 83 = .ok (.iload_n 2, 1) := by decide +kernel
theorem dX4_rubsOf_84 : decode cX4_rubsOf 84 = .ok (.aload_n 0, 1) := by decide +kernel
theorem dX4_rubsOf_85 : decode cX4_rubsOf 85 = .ok (.iload_n 1, 1) := by decide +kernel
theorem dX4_rubsOf_86 : decode cX4_rubsOf 86 = .ok (.invokevirtual 89, 3) := by decide +kernel
theorem dX4_rubsOf_89 : decode cX4_rubsOf 89 = .ok (.iadd, 1) := by decide +kernel
theorem dX4_rubsOf_90 : decode cX4_rubsOf 90 = .ok (.ireturn, 1) := by decide +kernel
theorem dX4_rubsOf_91 : decode cX4_rubsOf 91 = .ok (.iload_n 2, 1) := by decide +kernel
theorem dX4_rubsOf_92 : decode cX4_rubsOf 92 = .ok (.ireturn, 1) := by decide +kernel
theorem dX4_isWaiting_0 : decode cX4_isWaiting 0 = .ok (.aload_n 0, 1) := by decide +kernel
theorem dX4_isWaiting_1 : decode cX4_isWaiting 1 = .ok (.iload_n 1, 1) := by decide +kernel
theorem dX4_isWaiting_2 : decode cX4_isWaiting 2 = .ok (.invokevirtual 92, 3) := by decide +kernel
theorem dX4_isWaiting_5 : decode cX4_isWaiting 5 = .ok (.iconst 1, 1) := by decide +kernel
theorem dX4_isWaiting_6 : decode cX4_isWaiting 6 = .ok (.iload_n 1, 1) := by decide +kernel
theorem dX4_isWaiting_7 : decode cX4_isWaiting 7 = .ok (.ishl, 1) := by decide +kernel
theorem dX4_isWaiting_8 : decode cX4_isWaiting 8 = .ok (.iconst (-1), 1) := by decide +kernel
theorem dX4_isWaiting_9 : decode cX4_isWaiting 9 = .ok (.ixor, 1) := by decide +kernel
theorem dX4_isWaiting_10 : decode cX4_isWaiting 10 = .ok (.iand, 1) := by decide +kernel
theorem dX4_isWaiting_11 : decode cX4_isWaiting 11 = .ok (.ifCond .eq 7, 3) := by decide +kernel
theorem dX4_isWaiting_14 : decode cX4_isWaiting 14 = .ok (.iconst 1, 1) := by decide +kernel
theorem dX4_isWaiting_15 : decode cX4_isWaiting 15 = .ok (.goto 4, 3) := by decide +kernel
theorem dX4_isWaiting_18 : decode cX4_isWaiting 18 = .ok (.iconst 0, 1) := by decide +kernel
theorem dX4_isWaiting_19 : decode cX4_isWaiting 19 = .ok (.istore_n 2, 1) := by decide +kernel
theorem dX4_isWaiting_20 : decode cX4_isWaiting 20 = .ok (.aload_n 0, 1) := by decide +kernel
theorem dX4_isWaiting_21 : decode cX4_isWaiting 21 = .ok (.invokevirtual 67, 3) := by decide +kernel
theorem dX4_isWaiting_24 : decode cX4_isWaiting 24 = .ok (.ifCond .ne 7, 3) := by decide +kernel
theorem dX4_isWaiting_27 : decode cX4_isWaiting 27 = .ok (.iconst 1, 1) := by decide +kernel
theorem dX4_isWaiting_28 : decode cX4_isWaiting 28 = .ok (.goto 4, 3) := by decide +kernel
theorem dX4_isWaiting_31 : decode cX4_isWaiting 31 = .ok (.iconst 0, 1) := by decide +kernel
theorem dX4_isWaiting_32 : decode cX4_isWaiting 32 = .ok (.istore_n 3, 1) := by decide +kernel
theorem dX4_isWaiting_33 : decode cX4_isWaiting 33 = .ok (.aload_n 0, 1) := by decide +kernel
theorem dX4_isWaiting_34 : decode cX4_isWaiting 34 = .ok (.iload_n 1, 1) := by decide +kernel
theorem dX4_isWaiting_35 : decode cX4_isWaiting 35 = .ok (.iconst 0, 1) := by decide +kernel
theorem dX4_isWaiting_36 : decode cX4_isWaiting 36 = .ok (.invokevirtual 55, 3) := by decide +kernel
theorem dX4_isWaiting_39 : decode cX4_isWaiting 39 = .ok (.tableswitch 77 1 5 #[33, 35, 37, 39, 59], 33) := by decide +kernel
theorem dX4_isWaiting_72 : decode cX4_isWaiting 72 = .ok (.iload_n 2, 1) := by decide +kernel
theorem dX4_isWaiting_73 : decode cX4_isWaiting 73 = .ok (.ireturn, 1) := by decide +kernel
theorem dX4_isWaiting_74 : decode cX4_isWaiting 74 = .ok (.iload_n 3, 1) := by decide +kernel
theorem dX4_isWaiting_75 : decode cX4_isWaiting 75 = .ok (.ireturn, 1) := by decide +kernel
theorem dX4_isWaiting_76 : decode cX4_isWaiting 76 = .ok (.iconst 1, 1) := by decide +kernel
theorem dX4_isWaiting_77 : decode cX4_isWaiting 77 = .ok (.ireturn, 1) := by decide +kernel
theorem dX4_isWaiting_78 : decode cX4_isWaiting 78 = .ok (.iload_n 2, 1) := by decide +kernel
theorem dX4_isWaiting_79 : decode cX4_isWaiting 79 = .ok (.ifCond .eq 17, 3) := by decide +kernel
theorem dX4_isWaiting_82 : decode cX4_isWaiting 82 = .ok (.aload_n 0, 1) := by decide +kernel
theorem dX4_isWaiting_83 : decode cX4_isWaiting 83 = .ok (.invokevirtual 67, 3) := by decide +kernel
theorem dX4_isWaiting_86 : decode cX4_isWaiting 86 = .ok (.iconst 2, 1) := by decide +kernel
theorem dX4_isWaiting_87 : decode cX4_isWaiting 87 = .ok (.irem, 1) := by decide +kernel
theorem dX4_isWaiting_88 : decode cX4_isWaiting 88 = .ok (.iconst 1, 1) := by decide +kernel
theorem dX4_isWaiting_89 : decode cX4_isWaiting 89 = .ok (.if_icmp .ne 7, 3) := by decide +kernel
theorem dX4_isWaiting_92 : decode cX4_isWaiting 92 = .ok (.iconst 1, 1) := by decide +kernel
theorem dX4_isWaiting_93 : decode cX4_isWaiting 93 = .ok (.goto 4, 3) := by decide +kernel
theorem dX4_isWaiting_96 : decode cX4_isWaiting 96 = .ok (.iconst 0, 1) := by decide +kernel
theorem dX4_isWaiting_97 : decode cX4_isWaiting 97 = .ok (.ireturn, 1) := by decide +kernel
theorem dX4_isWaiting_98 : decode cX4_isWaiting 98 = .ok (.iload_n 3, 1) := by decide +kernel
theorem dX4_isWaiting_99 : decode cX4_isWaiting 99 = .ok (.ifCond .ne 11, 3) := by decide +kernel
theorem dX4_isWaiting_102 : decode cX4_isWaiting 102 = .ok (.aload_n 0, 1) := by decide +kernel
theorem dX4_isWaiting_103 : decode cX4_isWaiting 103 = .ok (.iload_n 1, 1) := by decide +kernel
theorem dX4_isWaiting_104 : decode cX4_isWaiting 104 = .ok (.invokevirtual 95, 3) := by decide +kernel
theorem dX4_isWaiting_107 : decode cX4_isWaiting 107 = .ok (.ifCond .eq 7, 3) := by decide +kernel
theorem dX4_isWaiting_110 : decode cX4_isWaiting 110 = .ok (.iconst 1, 1) := by decide +kernel
theorem dX4_isWaiting_111 : decode cX4_isWaiting 111 = .ok (.goto 4, 3) := by decide +kernel
theorem dX4_isWaiting_114 : decode cX4_isWaiting 114 = .ok (.iconst 0, 1) := by decide +kernel
theorem dX4_isWaiting_115 : decode cX4_isWaiting 115 = .ok (.ireturn, 1) := by decide +kernel
theorem dX4_isWaiting_116 : decode cX4_isWaiting 116 = .ok (.iconst 0, 1) := by decide +kernel
theorem dX4_isWaiting_117 : decode cX4_isWaiting 117 = .ok (.ireturn, 1) := by decide +kernel
theorem dX4_content_0 : decode cX4_content 0 = .ok (.iconst 0, 1) := by decide +kernel
theorem dX4_content_1 : decode cX4_content 1 = .ok (.istore_n 1, 1) := by decide +kernel
theorem dX4_content_2 : decode cX4_content 2 = .ok (.iconst 0, 1) := by decide +kernel
theorem dX4_content_3 : decode cX4_content 3 = .ok (.istore_n 2, 1) := by decide +kernel
theorem dX4_content_4 : decode cX4_content 4 = .ok (.iload_n 2, 1) := by decide +kernel
theorem dX4_content_5 : decode cX4_content 5 = .ok (.aload_n 0, 1) := by decide +kernel
theorem dX4_content_6 : decode cX4_content 6 = .ok (.getfield 7, 3) := by decide +kernel
theorem dX4_content_9 : decode cX4_content 9 = .ok (.iconst 1, 1) := by decide +kernel
theorem dX4_content_10 : decode cX4_content 10 = .ok (.iaload, 1) := by decide +kernel
theorem dX4_content_11 : decode cX4_content 11 = .ok (.if_icmp .ge 27, 3) := by decide +kernel
theorem dX4_content_14 : decode cX4_content 14 = .ok (.iload_n 1, 1) := by decide +kernel
theorem dX4_content_15 : decode cX4_content 15 = .ok (.aload_n 0, 1) := by decide +kernel
theorem dX4_content_16 : decode cX4_content 16 = .ok (.iload_n 2, 1) := by decide +kernel
theorem dX4_content_17 : decode cX4_content 17 = .ok (.invokevirtual 82, 3) := by decide +kernel
theorem dX4_content_20 : decode cX4_content 20 = .ok (.ifCond .eq 9, 3) := by decide +kernel
theorem dX4_content_23 : decode cX4_content 23 = .ok (.iconst 1, 1) := by decide +kernel
theorem dX4_content_24 : decode cX4_content 24 = .ok (.iload_n 2, 1) := by decide +kernel
theorem dX4_content_25 : decode cX4_content 25 = .ok (.ishl, 1) := by decide +kernel
theorem dX4_content_26 : decode cX4_content 26 = .ok (.goto 4, 3) := by decide +kernel
theorem dX4_content_29 : decode cX4_content 29 = .ok (.iconst 0, 1) := by decide +kernel
theorem dX4_content_30 : decode cX4_content 30 = .ok (.ior, 1) := by decide +kernel
theorem dX4_content_31 : decode cX4_content 31 = .ok (.istore_n 1, 1) := by decide +kernel
theorem dX4_content_32 : decode cX4_content 32 = .ok (.iinc 2 1, 3) := by decide +kernel
theorem dX4_content_35 : decode cX4_content 35 = .ok (.goto (-31), 3) := by decide +kernel
theorem dX4_content_38 : decode cX4_content 38 = .ok (.iload_n 1, 1) := by decide +kernel
theorem dX4_content_39 : decode cX4_content 39 = .ok (.ireturn, 1) := by decide +kernel
theorem dX4_waiting_0 : decode cX4_waiting 0 = .ok (.iconst 0, 1) := by decide +kernel
theorem dX4_waiting_1 : decode cX4_waiting 1 = .ok (.istore_n 1, 1) := by decide +kernel
theorem dX4_waiting_2 : decode cX4_waiting 2 = .ok (.iconst 0, 1) := by decide +kernel
theorem dX4_waiting_3 : decode cX4_waiting 3 = .ok (.istore_n 2, 1) := by decide +kernel
theorem dX4_waiting_4 : decode cX4_waiting 4 = .ok (.iload_n 2, 1) := by decide +kernel
theorem dX4_waiting_5 : decode cX4_waiting 5 = .ok (.aload_n 0, 1) := by decide +kernel
theorem dX4_waiting_6 : decode cX4_waiting 6 = .ok (.getfield 7, 3) := by decide +kernel
theorem dX4_waiting_9 : decode cX4_waiting 9 = .ok (.iconst 1, 1) := by decide +kernel
theorem dX4_waiting_10 : decode cX4_waiting 10 = .ok (.iaload, 1) := by decide +kernel
theorem dX4_waiting_11 : decode cX4_waiting 11 = .ok (.if_icmp .ge 27, 3) := by decide +kernel
theorem dX4_waiting_14 : decode cX4_waiting 14 = .ok (.iload_n 1, 1) := by decide +kernel
theorem dX4_waiting_15 : decode cX4_waiting 15 = .ok (.aload_n 0, 1) := by decide +kernel
theorem dX4_waiting_16 : decode cX4_waiting 16 = .ok (.iload_n 2, 1) := by decide +kernel
theorem dX4_waiting_17 : decode cX4_waiting 17 = .ok (.invokevirtual 98, 3) := by decide +kernel
theorem dX4_waiting_20 : decode cX4_waiting 20 = .ok (.ifCond .eq 9, 3) := by decide +kernel
theorem dX4_waiting_23 : decode cX4_waiting 23 = .ok (.iconst 1, 1) := by decide +kernel
theorem dX4_waiting_24 : decode cX4_waiting 24 = .ok (.iload_n 2, 1) := by decide +kernel
theorem dX4_waiting_25 : decode cX4_waiting 25 = .ok (.ishl, 1) := by decide +kernel
theorem dX4_waiting_26 : decode cX4_waiting 26 = .ok (.goto 4, 3) := by decide +kernel
theorem dX4_waiting_29 : decode cX4_waiting 29 = .ok (.iconst 0, 1) := by decide +kernel
theorem dX4_waiting_30 : decode cX4_waiting 30 = .ok (.ior, 1) := by decide +kernel
theorem dX4_waiting_31 : decode cX4_waiting 31 = .ok (.istore_n 1, 1) := by decide +kernel
theorem dX4_waiting_32 : decode cX4_waiting 32 = .ok (.iinc 2 1, 3) := by decide +kernel
theorem dX4_waiting_35 : decode cX4_waiting 35 = .ok (.goto (-31), 3) := by decide +kernel
theorem dX4_waiting_38 : decode cX4_waiting 38 = .ok (.iload_n 1, 1) := by decide +kernel
theorem dX4_waiting_39 : decode cX4_waiting 39 = .ok (.ireturn, 1) := by decide +kernel
theorem dX4_seenOnes_0 : decode cX4_seenOnes 0 = .ok (.iconst 0, 1) := by decide +kernel
theorem dX4_seenOnes_1 : decode cX4_seenOnes 1 = .ok (.istore_n 1, 1) := by decide +kernel
theorem dX4_seenOnes_2 : decode cX4_seenOnes 2 = .ok (.iconst 0, 1) := by decide +kernel
theorem dX4_seenOnes_3 : decode cX4_seenOnes 3 = .ok (.istore_n 2, 1) := by decide +kernel
theorem dX4_seenOnes_4 : decode cX4_seenOnes 4 = .ok (.iload_n 2, 1) := by decide +kernel
theorem dX4_seenOnes_5 : decode cX4_seenOnes 5 = .ok (.aload_n 0, 1) := by decide +kernel
theorem dX4_seenOnes_6 : decode cX4_seenOnes 6 = .ok (.getfield 7, 3) := by decide +kernel
theorem dX4_seenOnes_9 : decode cX4_seenOnes 9 = .ok (.iconst 1, 1) := by decide +kernel
theorem dX4_seenOnes_10 : decode cX4_seenOnes 10 = .ok (.iaload, 1) := by decide +kernel
theorem dX4_seenOnes_11 : decode cX4_seenOnes 11 = .ok (.if_icmp .ge 27, 3) := by decide +kernel
theorem dX4_seenOnes_14 : decode cX4_seenOnes 14 = .ok (.iload_n 1, 1) := by decide +kernel
theorem dX4_seenOnes_15 : decode cX4_seenOnes 15 = .ok (.aload_n 0, 1) := by decide +kernel
theorem dX4_seenOnes_16 : decode cX4_seenOnes 16 = .ok (.iload_n 2, 1) := by decide +kernel
theorem dX4_seenOnes_17 : decode cX4_seenOnes 17 = .ok (.invokevirtual 92, 3) := by decide +kernel
theorem dX4_seenOnes_20 : decode cX4_seenOnes 20 = .ok (.ifCond .eq 9, 3) := by decide +kernel
theorem dX4_seenOnes_23 : decode cX4_seenOnes 23 = .ok (.iconst 1, 1) := by decide +kernel
theorem dX4_seenOnes_24 : decode cX4_seenOnes 24 = .ok (.iload_n 2, 1) := by decide +kernel
theorem dX4_seenOnes_25 : decode cX4_seenOnes 25 = .ok (.ishl, 1) := by decide +kernel
theorem dX4_seenOnes_26 : decode cX4_seenOnes 26 = .ok (.goto 4, 3) := by decide +kernel
theorem dX4_seenOnes_29 : decode cX4_seenOnes 29 = .ok (.iconst 0, 1) := by decide +kernel
theorem dX4_seenOnes_30 : decode cX4_seenOnes 30 = .ok (.ior, 1) := by decide +kernel
theorem dX4_seenOnes_31 : decode cX4_seenOnes 31 = .ok (.istore_n 1, 1) := by decide +kernel
theorem dX4_seenOnes_32 : decode cX4_seenOnes 32 = .ok (.iinc 2 1, 3) := by decide +kernel
theorem dX4_seenOnes_35 : decode cX4_seenOnes 35 = .ok (.goto (-31), 3) := by decide +kernel
theorem dX4_seenOnes_38 : decode cX4_seenOnes 38 = .ok (.iload_n 1, 1) := by decide +kernel
theorem dX4_seenOnes_39 : decode cX4_seenOnes 39 = .ok (.ireturn, 1) := by decide +kernel
theorem dX4_outOnes_0 : decode cX4_outOnes 0 = .ok (.iconst 0, 1) := by decide +kernel
theorem dX4_outOnes_1 : decode cX4_outOnes 1 = .ok (.istore_n 1, 1) := by decide +kernel
theorem dX4_outOnes_2 : decode cX4_outOnes 2 = .ok (.iconst 0, 1) := by decide +kernel
theorem dX4_outOnes_3 : decode cX4_outOnes 3 = .ok (.istore_n 2, 1) := by decide +kernel
theorem dX4_outOnes_4 : decode cX4_outOnes 4 = .ok (.iload_n 2, 1) := by decide +kernel
theorem dX4_outOnes_5 : decode cX4_outOnes 5 = .ok (.aload_n 0, 1) := by decide +kernel
theorem dX4_outOnes_6 : decode cX4_outOnes 6 = .ok (.getfield 7, 3) := by decide +kernel
theorem dX4_outOnes_9 : decode cX4_outOnes 9 = .ok (.iconst 1, 1) := by decide +kernel
theorem dX4_outOnes_10 : decode cX4_outOnes 10 = .ok (.iaload, 1) := by decide +kernel
theorem dX4_outOnes_11 : decode cX4_outOnes 11 = .ok (.if_icmp .ge 21, 3) := by decide +kernel
theorem dX4_outOnes_14 : decode cX4_outOnes 14 = .ok (.iload_n 1, 1) := by decide +kernel
theorem dX4_outOnes_15 : decode cX4_outOnes 15 = .ok (.aload_n 0, 1) := by decide +kernel
theorem dX4_outOnes_16 : decode cX4_outOnes 16 = .ok (.iload_n 2, 1) := by decide +kernel
theorem dX4_outOnes_17 : decode cX4_outOnes 17 = .ok (.bipush 7, 2) := by decide +kernel
theorem dX4_outOnes_19 : decode cX4_outOnes 19 = .ok (.invokevirtual 55, 3) := by decide +kernel
theorem dX4_outOnes_22 : decode cX4_outOnes 22 = .ok (.iload_n 2, 1) := by decide +kernel
theorem dX4_outOnes_23 : decode cX4_outOnes 23 = .ok (.ishl, 1) := by decide +kernel
theorem dX4_outOnes_24 : decode cX4_outOnes 24 = .ok (.ior, 1) := by decide +kernel
theorem dX4_outOnes_25 : decode cX4_outOnes 25 = .ok (.istore_n 1, 1) := by decide +kernel
theorem dX4_outOnes_26 : decode cX4_outOnes 26 = .ok (.iinc 2 1, 3) := by decide +kernel
theorem dX4_outOnes_29 : decode cX4_outOnes 29 = .ok (.goto (-25), 3) := by decide +kernel
theorem dX4_outOnes_32 : decode cX4_outOnes 32 = .ok (.iload_n 1, 1) := by decide +kernel
theorem dX4_outOnes_33 : decode cX4_outOnes 33 = .ok (.ireturn, 1) := by decide +kernel
theorem dX4_now_0 : decode cX4_now 0 = .ok (.iload_n 1, 1) := by decide +kernel
theorem dX4_now_1 : decode cX4_now 1 = .ok (.tableswitch 99 0 7 #[47, 54, 59, 72, 77, 82, 87, 92], 47) := by decide +kernel
theorem dX4_now_48 : decode cX4_now 48 = .ok (.aload_n 0, 1) := by decide +kernel
theorem dX4_now_49 : decode cX4_now 49 = .ok (.getfield 7, 3) := by decide +kernel
theorem dX4_now_52 : decode cX4_now 52 = .ok (.iconst 0, 1) := by decide +kernel
theorem dX4_now_53 : decode cX4_now 53 = .ok (.iaload, 1) := by decide +kernel
theorem dX4_now_54 : decode cX4_now 54 = .ok (.ireturn, 1) := by decide +kernel
theorem dX4_now_55 : decode cX4_now 55 = .ok (.aload_n 0, 1) := by decide +kernel
theorem dX4_now_56 : decode cX4_now 56 = .ok (.invokevirtual 67, 3) := by decide +kernel
theorem dX4_now_59 : decode cX4_now 59 = .ok (.ireturn, 1) := by decide +kernel
theorem dX4_now_60 : decode cX4_now 60 = .ok (.aload_n 0, 1) := by decide +kernel
theorem dX4_now_61 : decode cX4_now 61 = .ok (.invokevirtual 85, 3) := by decide +kernel
theorem dX4_now_64 : decode cX4_now 64 = .ok (.ifCond .eq 7, 3) := by decide +kernel
theorem dX4_now_67 : decode cX4_now 67 = .ok (.iconst 1, 1) := by decide +kernel
theorem dX4_now_68 : decode cX4_now 68 = .ok (.goto 4, 3) := by decide +kernel
theorem dX4_now_71 : decode cX4_now 71 = .ok (.iconst 0, 1) := by decide +kernel
theorem dX4_now_72 : decode cX4_now 72 = .ok (.ireturn, 1) := by decide +kernel
theorem dX4_now_73 : decode cX4_now 73 = .ok (.aload_n 0, 1) := by decide +kernel
theorem dX4_now_74 : decode cX4_now 74 = .ok (.invokevirtual 101, 3) := by decide +kernel
theorem dX4_now_77 : decode cX4_now 77 = .ok (.ireturn, 1) := by decide +kernel
theorem dX4_now_78 : decode cX4_now 78 = .ok (.aload_n 0, 1) := by decide +kernel
theorem dX4_now_79 : decode cX4_now 79 = .ok (.invokevirtual 104, 3) := by decide +kernel
theorem dX4_now_82 : decode cX4_now 82 = .ok (.ireturn, 1) := by decide +kernel
theorem dX4_now_83 : decode cX4_now 83 = .ok (.aload_n 0, 1) := by decide +kernel
theorem dX4_now_84 : decode cX4_now 84 = .ok (.invokevirtual 107, 3) := by decide +kernel
theorem dX4_now_87 : decode cX4_now 87 = .ok (.ireturn, 1) := by decide +kernel
theorem dX4_now_88 : decode cX4_now 88 = .ok (.aload_n 0, 1) := by decide +kernel
theorem dX4_now_89 : decode cX4_now 89 = .ok (.invokevirtual 110, 3) := by decide +kernel
theorem dX4_now_92 : decode cX4_now 92 = .ok (.ireturn, 1) := by decide +kernel
theorem dX4_now_93 : decode cX4_now 93 = .ok (.aload_n 0, 1) := by decide +kernel
theorem dX4_now_94 : decode cX4_now 94 = .ok (.bipush 8, 2) := by decide +kernel
theorem dX4_now_96 : decode cX4_now 96 = .ok (.invokevirtual 113, 3) := by decide +kernel
theorem dX4_now_99 : decode cX4_now 99 = .ok (.ireturn, 1) := by decide +kernel
theorem dX4_now_100 : decode cX4_now 100 = .ok (.aload_n 0, 1) := by decide +kernel
theorem dX4_now_101 : decode cX4_now 101 = .ok (.ldc 44, 2) := by decide +kernel
theorem dX4_now_103 : decode cX4_now 103 = .ok (.invokevirtual 63, 3) := by decide +kernel
theorem dX4_now_106 : decode cX4_now 106 = .ok (.ireturn, 1) := by decide +kernel
theorem dX4_hangs_0 : decode cX4_hangs 0 = .ok (.iload_n 1, 1) := by decide +kernel
theorem dX4_hangs_1 : decode cX4_hangs 1 = .ok (.i2l, 1) := by decide +kernel
theorem dX4_hangs_2 : decode cX4_hangs 2 = .ok (.lconst 0, 1) := by decide +kernel
theorem dX4_hangs_3 : decode cX4_hangs 3 = .ok (.ldc2_w 116, 3) := by decide +kernel
theorem dX4_hangs_6 : decode cX4_hangs 6 = .ok (.invokestatic 49, 3) := by decide +kernel
theorem dX4_hangs_9 : decode cX4_hangs 9 = .ok (.ifCond .ne 10, 3) := by decide +kernel
theorem dX4_hangs_12 : decode cX4_hangs 12 = .ok (.aload_n 0, 1) := by decide +kernel
theorem dX4_hangs_13 : decode cX4_hangs 13 = .ok (.ldc 44, 2) := by decide +kernel
theorem dX4_hangs_15 : decode cX4_hangs 15 = .ok (.invokevirtual 63, 3) := by decide +kernel
theorem dX4_hangs_18 : decode cX4_hangs 18 = .ok (.ireturn, 1) := by decide +kernel
theorem dX4_hangs_19 : decode cX4_hangs 19 = .ok (.iconst 0, 1) := by decide +kernel
theorem dX4_hangs_20 : decode cX4_hangs 20 = .ok (.istore_n 2, 1) := by decide +kernel
theorem dX4_hangs_21 : decode cX4_hangs 21 = .ok (.iconst 0, 1) := by decide +kernel
theorem dX4_hangs_22 : decode cX4_hangs 22 = .ok (.istore_n 3, 1) := by decide +kernel
theorem dX4_hangs_23 : decode cX4_hangs 23 = .ok (.iload_n 3, 1) := by decide +kernel
theorem dX4_hangs_24 : decode cX4_hangs 24 = .ok (.aload_n 0, 1) := by decide +kernel
theorem dX4_hangs_25 : decode cX4_hangs 25 = .ok (.getfield 7, 3) := by decide +kernel
theorem dX4_hangs_28 : decode cX4_hangs 28 = .ok (.iconst 1, 1) := by decide +kernel
theorem dX4_hangs_29 : decode cX4_hangs 29 = .ok (.iaload, 1) := by decide +kernel
theorem dX4_hangs_30 : decode cX4_hangs 30 = .ok (.if_icmp .ge 29, 3) := by decide +kernel
theorem dX4_hangs_33 : decode cX4_hangs 33 = .ok (.iload_n 2, 1) := by decide +kernel
theorem dX4_hangs_34 : decode cX4_hangs 34 = .ok (.aload_n 0, 1) := by decide +kernel
theorem dX4_hangs_35 : decode cX4_hangs 35 = .ok (.iload_n 3, 1) := by decide +kernel
theorem dX4_hangs_36 : decode cX4_hangs 36 = .ok (.iconst 1, 1) := by decide +kernel
theorem dX4_hangs_37 : decode cX4_hangs 37 = .ok (.invokevirtual 55, 3) := by decide +kernel
theorem dX4_hangs_40 : decode cX4_hangs 40 = .ok (.iload_n 1, 1) := by decide +kernel
theorem dX4_hangs_41 : decode cX4_hangs 41 = .ok (.if_icmp .ne 9, 3) := by decide +kernel
theorem dX4_hangs_44 : decode cX4_hangs 44 = .ok (.iconst 1, 1) := by decide +kernel
theorem dX4_hangs_45 : decode cX4_hangs 45 = .ok (.iload_n 3, 1) := by decide +kernel
theorem dX4_hangs_46 : decode cX4_hangs 46 = .ok (.ishl, 1) := by decide +kernel
theorem dX4_hangs_47 : decode cX4_hangs 47 = .ok (.goto 4, 3) := by decide +kernel
theorem dX4_hangs_50 : decode cX4_hangs 50 = .ok (.iconst 0, 1) := by decide +kernel
theorem dX4_hangs_51 : decode cX4_hangs 51 = .ok (.ior, 1) := by decide +kernel
theorem dX4_hangs_52 : decode cX4_hangs 52 = .ok (.istore_n 2, 1) := by decide +kernel
theorem dX4_hangs_53 : decode cX4_hangs 53 = .ok (.iinc 3 1, 3) := by decide +kernel
theorem dX4_hangs_56 : decode cX4_hangs 56 = .ok (.goto (-33), 3) := by decide +kernel
theorem dX4_hangs_59 : decode cX4_hangs 59 = .ok (.iload_n 2, 1) := by decide +kernel
theorem dX4_hangs_60 : decode cX4_hangs 60 = .ok (.ireturn, 1) := by decide +kernel
theorem dX4_adds_0 : decode cX4_adds 0 = .ok (.aload_n 0, 1) := by decide +kernel
theorem dX4_adds_1 : decode cX4_adds 1 = .ok (.getfield 7, 3) := by decide +kernel
theorem dX4_adds_4 : decode cX4_adds 4 = .ok (.iconst 1, 1) := by decide +kernel
theorem dX4_adds_5 : decode cX4_adds 5 = .ok (.iaload, 1) := by decide +kernel
theorem dX4_adds_6 : decode cX4_adds 6 = .ok (.istore 4, 2) := by decide +kernel
theorem dX4_adds_8 : decode cX4_adds 8 = .ok (.aload_n 0, 1) := by decide +kernel
theorem dX4_adds_9 : decode cX4_adds 9 = .ok (.getfield 7, 3) := by decide +kernel
theorem dX4_adds_12 : decode cX4_adds 12 = .ok (.iconst 1, 1) := by decide +kernel
theorem dX4_adds_13 : decode cX4_adds 13 = .ok (.dup2, 1) := by decide +kernel
theorem dX4_adds_14 : decode cX4_adds 14 = .ok (.iaload, 1) := by decide +kernel
theorem dX4_adds_15 : decode cX4_adds 15 = .ok (.iconst 1, 1) := by decide +kernel
theorem dX4_adds_16 : decode cX4_adds 16 = .ok (.iadd, 1) := by decide +kernel
theorem dX4_adds_17 : decode cX4_adds 17 = .ok (.iastore, 1) := by decide +kernel
theorem dX4_adds_18 : decode cX4_adds 18 = .ok (.iconst 0, 1) := by decide +kernel
theorem dX4_adds_19 : decode cX4_adds 19 = .ok (.istore 5, 2) := by decide +kernel
theorem dX4_adds_21 : decode cX4_adds 21 = .ok (.iload 5, 2) := by decide +kernel
theorem dX4_adds_23 : decode cX4_adds 23 = .ok (.bipush 8, 2) := by decide +kernel
theorem dX4_adds_25 : decode cX4_adds 25 = .ok (.if_icmp .gt 22, 3) := by decide +kernel
theorem dX4_adds_28 : decode cX4_adds 28 = .ok (.aload_n 0, 1) := by decide +kernel
theorem dX4_adds_29 : decode cX4_adds 29 = .ok (.getfield 7, 3) := by decide +kernel
theorem dX4_adds_32 : decode cX4_adds 32 = .ok (.iload 4, 2) := by decide +kernel
theorem dX4_adds_34 : decode cX4_adds 34 = .ok (.iload 5, 2) := by decide +kernel
theorem dX4_adds_36 : decode cX4_adds 36 = .ok (.invokestatic 45, 3) := by decide +kernel
theorem dX4_adds_39 : decode cX4_adds 39 = .ok (.iconst 0, 1) := by decide +kernel
theorem dX4_adds_40 : decode cX4_adds 40 = .ok (.iastore, 1) := by decide +kernel
theorem dX4_adds_41 : decode cX4_adds 41 = .ok (.iinc 5 1, 3) := by decide +kernel
theorem dX4_adds_44 : decode cX4_adds 44 = .ok (.goto (-23), 3) := by decide +kernel
theorem dX4_adds_47 : decode cX4_adds 47 = .ok (.aload_n 0, 1) := by decide +kernel
theorem dX4_adds_48 : decode cX4_adds 48 = .ok (.getfield 7, 3) := by decide +kernel
theorem dX4_adds_51 : decode cX4_adds 51 = .ok (.iload 4, 2) := by decide +kernel
theorem dX4_adds_53 : decode cX4_adds 53 = .ok (.iconst 0, 1) := by decide +kernel
theorem dX4_adds_54 : decode cX4_adds 54 = .ok (.invokestatic 45, 3) := by decide +kernel
theorem dX4_adds_57 : decode cX4_adds 57 = .ok (.iload_n 1, 1) := by decide +kernel
theorem dX4_adds_58 : decode cX4_adds 58 = .ok (.iastore, 1) := by decide +kernel
theorem dX4_adds_59 : decode cX4_adds 59 = .ok (.aload_n 0, 1) := by decide +kernel
theorem dX4_adds_60 : decode cX4_adds 60 = .ok (.getfield 7, 3) := by decide +kernel
theorem dX4_adds_63 : decode cX4_adds 63 = .ok (.iload 4, 2) := by decide +kernel
theorem dX4_adds_65 : decode cX4_adds 65 = .ok (.iconst 1, 1) := by decide +kernel
theorem dX4_adds_66 : decode cX4_adds 66 = .ok (.invokestatic 45, 3) := by decide +kernel
theorem dX4_adds_69 : decode cX4_adds 69 = .ok (.iload_n 2, 1) := by decide +kernel
theorem dX4_adds_70 : decode cX4_adds 70 = .ok (.iastore, 1) := by decide +kernel
theorem dX4_adds_71 : decode cX4_adds 71 = .ok (.aload_n 0, 1) := by decide +kernel
theorem dX4_adds_72 : decode cX4_adds 72 = .ok (.getfield 7, 3) := by decide +kernel
theorem dX4_adds_75 : decode cX4_adds 75 = .ok (.iload 4, 2) := by decide +kernel
theorem dX4_adds_77 : decode cX4_adds 77 = .ok (.iconst 2, 1) := by decide +kernel
theorem dX4_adds_78 : decode cX4_adds 78 = .ok (.invokestatic 45, 3) := by decide +kernel
theorem dX4_adds_81 : decode cX4_adds 81 = .ok (.iload_n 3, 1) := by decide +kernel
theorem dX4_adds_82 : decode cX4_adds 82 = .ok (.iastore, 1) := by decide +kernel
theorem dX4_adds_83 : decode cX4_adds 83 = .ok (.aload_n 0, 1) := by decide +kernel
theorem dX4_adds_84 : decode cX4_adds 84 = .ok (.getfield 7, 3) := by decide +kernel
theorem dX4_adds_87 : decode cX4_adds 87 = .ok (.iload 4, 2) := by decide +kernel
theorem dX4_adds_89 : decode cX4_adds 89 = .ok (.iconst 3, 1) := by decide +kernel
theorem dX4_adds_90 : decode cX4_adds 90 = .ok (.invokestatic 45, 3) := by decide +kernel
theorem dX4_adds_93 : decode cX4_adds 93 = .ok (.bipush 50, 2) := by decide +kernel
theorem dX4_adds_95 : decode cX4_adds 95 = .ok (.iastore, 1) := by decide +kernel
theorem dX4_adds_96 : decode cX4_adds 96 = .ok (.aload_n 0, 1) := by decide +kernel
theorem dX4_adds_97 : decode cX4_adds 97 = .ok (.getfield 7, 3) := by decide +kernel
theorem dX4_adds_100 : decode cX4_adds 100 = .ok (.iload 4, 2) := by decide +kernel
theorem dX4_adds_102 : decode cX4_adds 102 = .ok (.bipush 6, 2) := by decide +kernel
theorem dX4_adds_104 : decode cX4_adds 104 = .ok (.invokestatic 45, 3) := by decide +kernel
theorem dX4_adds_107 : decode cX4_adds 107 = .ok (.iconst (-1), 1) := by decide +kernel
theorem dX4_adds_108 : decode cX4_adds 108 = .ok (.iastore, 1) := by decide +kernel
theorem dX4_adds_109 : decode cX4_adds 109 = .ok (.iload 4, 2) := by decide +kernel
theorem dX4_adds_111 : decode cX4_adds 111 = .ok (.ireturn, 1) := by decide +kernel
theorem dX4_figure_0 : decode cX4_figure 0 = .ok (.iload_n 1, 1) := by decide +kernel
theorem dX4_figure_1 : decode cX4_figure 1 = .ok (.invokestatic 118, 3) := by decide +kernel
theorem dX4_figure_4 : decode cX4_figure 4 = .ok (.ifCond .eq 27, 3) := by decide +kernel
theorem dX4_figure_7 : decode cX4_figure 7 = .ok (.iload_n 2, 1) := by decide +kernel
theorem dX4_figure_8 : decode cX4_figure 8 = .ok (.i2l, 1) := by decide +kernel
theorem dX4_figure_9 : decode cX4_figure 9 = .ok (.lconst 0, 1) := by decide +kernel
theorem dX4_figure_10 : decode cX4_figure 10 = .ok (.ldc2_w 116, 3) := by decide +kernel
theorem dX4_figure_13 : decode cX4_figure 13 = .ok (.invokestatic 49, 3) := by decide +kernel
theorem dX4_figure_16 : decode cX4_figure 16 = .ok (.ifCond .eq 15, 3) := by decide +kernel
theorem dX4_figure_19 : decode cX4_figure 19 = .ok (.iload_n 3, 1) := by decide +kernel
theorem dX4_figure_20 : decode cX4_figure 20 = .ok (.i2l, 1) := by decide +kernel
theorem dX4_figure_21 : decode cX4_figure 21 = .ok (.lconst 0, 1) := by decide +kernel
theorem dX4_figure_22 : decode cX4_figure 22 = .ok (.ldc2_w 121, 3) := by decide +kernel
theorem dX4_figure_25 : decode cX4_figure 25 = .ok (.invokestatic 49, 3) := by decide +kernel
theorem dX4_figure_28 : decode cX4_figure 28 = .ok (.ifCond .ne 10, 3) := by decide +kernel
theorem dX4_figure_31 : decode cX4_figure 31 = .ok (.aload_n 0, 1) := by decide +kernel
theorem dX4_figure_32 : decode cX4_figure 32 = .ok (.ldc 44, 2) := by decide +kernel
theorem dX4_figure_34 : decode cX4_figure 34 = .ok (.invokevirtual 63, 3) := by decide +kernel
theorem dX4_figure_37 : decode cX4_figure 37 = .ok (.ireturn, 1) := by decide +kernel
theorem dX4_figure_38 : decode cX4_figure 38 = .ok (.aload_n 0, 1) := by decide +kernel
theorem dX4_figure_39 : decode cX4_figure 39 = .ok (.getfield 7, 3) := by decide +kernel
theorem dX4_figure_42 : decode cX4_figure 42 = .ok (.iconst 1, 1) := by decide +kernel
theorem dX4_figure_43 : decode cX4_figure 43 = .ok (.iaload, 1) := by decide +kernel
theorem dX4_figure_44 : decode cX4_figure 44 = .ok (.bipush 8, 2) := by decide +kernel
theorem dX4_figure_46 : decode cX4_figure 46 = .ok (.if_icmp .ne 12, 3) := by decide +kernel
theorem dX4_figure_49 : decode cX4_figure 49 = .ok (.aload_n 0, 1) := by decide +kernel
theorem dX4_figure_50 : decode cX4_figure 50 = .ok (.ldc 123, 2) := by decide +kernel
theorem dX4_figure_52 : decode cX4_figure 52 = .ok (.invokevirtual 63, 3) := by decide +kernel
theorem dX4_figure_55 : decode cX4_figure 55 = .ok (.goto 10, 3) := by decide +kernel
theorem dX4_figure_58 : decode cX4_figure 58 = .ok (.aload_n 0, 1) := by decide +kernel
theorem dX4_figure_59 : decode cX4_figure 59 = .ok (.iload_n 1, 1) := by decide +kernel
theorem dX4_figure_60 : decode cX4_figure 60 = .ok (.iload_n 2, 1) := by decide +kernel
theorem dX4_figure_61 : decode cX4_figure 61 = .ok (.iload_n 3, 1) := by decide +kernel
theorem dX4_figure_62 : decode cX4_figure 62 = .ok (.invokevirtual 124, 3) := by decide +kernel
theorem dX4_figure_65 : decode cX4_figure 65 = .ok (.ireturn, 1) := by decide +kernel
theorem dX4_of_0 : decode cX4_of 0 = .ok (.aload_n 0, 1) := by decide +kernel
theorem dX4_of_1 : decode cX4_of 1 = .ok (.iload_n 1, 1) := by decide +kernel
theorem dX4_of_2 : decode cX4_of 2 = .ok (.invokevirtual 128, 3) := by decide +kernel
theorem dX4_of_5 : decode cX4_of 5 = .ok (.ifCond .eq 15, 3) := by decide +kernel
theorem dX4_of_8 : decode cX4_of 8 = .ok (.iload_n 2, 1) := by decide +kernel
theorem dX4_of_9 : decode cX4_of 9 = .ok (.i2l, 1) := by decide +kernel
theorem dX4_of_10 : decode cX4_of 10 = .ok (.lconst 0, 1) := by decide +kernel
theorem dX4_of_11 : decode cX4_of 11 = .ok (.ldc2_w 131, 3) := by decide +kernel
theorem dX4_of_14 : decode cX4_of 14 = .ok (.invokestatic 49, 3) := by decide +kernel
theorem dX4_of_17 : decode cX4_of 17 = .ok (.ifCond .ne 10, 3) := by decide +kernel
theorem dX4_of_20 : decode cX4_of 20 = .ok (.aload_n 0, 1) := by decide +kernel
theorem dX4_of_21 : decode cX4_of 21 = .ok (.ldc 44, 2) := by decide +kernel
theorem dX4_of_23 : decode cX4_of 23 = .ok (.invokevirtual 63, 3) := by decide +kernel
theorem dX4_of_26 : decode cX4_of 26 = .ok (.ireturn, 1) := by decide +kernel
theorem dX4_of_27 : decode cX4_of 27 = .ok (.iload_n 2, 1) := by decide +kernel
theorem dX4_of_28 : decode cX4_of 28 = .ok (.tableswitch 62 9 11 #[28, 34, 48], 28) := by decide +kernel
theorem dX4_of_56 : decode cX4_of 56 = .ok (.aload_n 0, 1) := by decide +kernel
theorem dX4_of_57 : decode cX4_of 57 = .ok (.iload_n 1, 1) := by decide +kernel
theorem dX4_of_58 : decode cX4_of 58 = .ok (.invokevirtual 133, 3) := by decide +kernel
theorem dX4_of_61 : decode cX4_of 61 = .ok (.ireturn, 1) := by decide +kernel
theorem dX4_of_62 : decode cX4_of 62 = .ok (.aload_n 0, 1) := by decide +kernel
theorem dX4_of_63 : decode cX4_of 63 = .ok (.iload_n 1, 1) := by decide +kernel
theorem dX4_of_64 : decode cX4_of 64 = .ok (.invokevirtual 98, 3) := by decide +kernel
theorem dX4_of_67 : decode cX4_of 67 = .ok (.ifCond .eq 7, 3) := by decide +kernel
theorem dX4_of_70 : decode cX4_of 70 = .ok (.iconst 1, 1) := by decide +kernel
theorem dX4_of_71 : decode cX4_of 71 = .ok (.goto 4, 3) := by decide +kernel
theorem dX4_of_74 : decode cX4_of 74 = .ok (.iconst 0, 1) := by decide +kernel
theorem dX4_of_75 : decode cX4_of 75 = .ok (.ireturn, 1) := by decide +kernel
theorem dX4_of_76 : decode cX4_of 76 = .ok (.aload_n 0, 1) := by decide +kernel
theorem dX4_of_77 : decode cX4_of 77 = .ok (.iload_n 1, 1) := by decide +kernel
theorem dX4_of_78 : decode cX4_of 78 = .ok (.invokevirtual 82, 3) := by decide +kernel
theorem dX4_of_81 : decode cX4_of 81 = .ok (.ifCond .eq 7, 3) := by decide +kernel
theorem dX4_of_84 : decode cX4_of 84 = .ok (.iconst 1, 1) := by decide +kernel
theorem dX4_of_85 : decode cX4_of 85 = .ok (.goto 4, 3) := by decide +kernel
theorem dX4_of_88 : decode cX4_of 88 = .ok (.iconst 0, 1) := by decide +kernel
theorem dX4_of_89 : decode cX4_of 89 = .ok (.ireturn, 1) := by decide +kernel
theorem dX4_of_90 : decode cX4_of 90 = .ok (.aload_n 0, 1) := by decide +kernel
theorem dX4_of_91 : decode cX4_of 91 = .ok (.iload_n 1, 1) := by decide +kernel
theorem dX4_of_92 : decode cX4_of 92 = .ok (.iload_n 2, 1) := by decide +kernel
theorem dX4_of_93 : decode cX4_of 93 = .ok (.invokevirtual 55, 3) := by decide +kernel
theorem dX4_of_96 : decode cX4_of 96 = .ok (.ireturn, 1) := by decide +kernel
theorem dX4_isSet_0 : decode cX4_isSet 0 = .ok (.iload_n 1, 1) := by decide +kernel
theorem dX4_isSet_1 : decode cX4_isSet 1 = .ok (.tableswitch 110 1 7 #[43, 53, 63, 73, 81, 91, 73], 43) := by decide +kernel
theorem dX4_isSet_44 : decode cX4_isSet 44 = .ok (.iload_n 2, 1) := by decide +kernel
theorem dX4_isSet_45 : decode cX4_isSet 45 = .ok (.i2l, 1) := by decide +kernel
theorem dX4_isSet_46 : decode cX4_isSet 46 = .ok (.lconst 0, 1) := by decide +kernel
theorem dX4_isSet_47 : decode cX4_isSet 47 = .ok (.ldc2_w 116, 3) := by decide +kernel
theorem dX4_isSet_50 : decode cX4_isSet 50 = .ok (.invokestatic 49, 3) := by decide +kernel
theorem dX4_isSet_53 : decode cX4_isSet 53 = .ok (.ireturn, 1) := by decide +kernel
theorem dX4_isSet_54 : decode cX4_isSet 54 = .ok (.iload_n 2, 1) := by decide +kernel
theorem dX4_isSet_55 : decode cX4_isSet 55 = .ok (.i2l, 1) := by decide +kernel
theorem dX4_isSet_56 : decode cX4_isSet 56 = .ok (.lconst 0, 1) := by decide +kernel
theorem dX4_isSet_57 : decode cX4_isSet 57 = .ok (.ldc2_w 121, 3) := by decide +kernel
theorem dX4_isSet_60 : decode cX4_isSet 60 = .ok (.invokestatic 49, 3) := by decide +kernel
theorem dX4_isSet_63 : decode cX4_isSet 63 = .ok (.ireturn, 1) := by decide +kernel
theorem dX4_isSet_64 : decode cX4_isSet 64 = .ok (.iload_n 2, 1) := by decide +kernel
theorem dX4_isSet_65 : decode cX4_isSet 65 = .ok (.i2l, 1) := by decide +kernel
theorem dX4_isSet_66 : decode cX4_isSet 66 = .ok (.lconst 0, 1) := by decide +kernel
theorem dX4_isSet_67 : decode cX4_isSet 67 = .ok (.ldc2_w 136, 3) := by decide +kernel
theorem dX4_isSet_70 : decode cX4_isSet 70 = .ok (.invokestatic 49, 3) := by decide +kernel
theorem dX4_isSet_73 : decode cX4_isSet 73 = .ok (.ireturn, 1) := by decide +kernel
theorem dX4_isSet_74 : decode cX4_isSet 74 = .ok (.iload_n 2, 1) := by decide +kernel
theorem dX4_isSet_75 : decode cX4_isSet 75 = .ok (.i2l, 1) := by decide +kernel
theorem dX4_isSet_76 : decode cX4_isSet 76 = .ok (.lconst 0, 1) := by decide +kernel
theorem dX4_isSet_77 : decode cX4_isSet 77 = .ok (.lconst 1, 1) := by decide +kernel
theorem dX4_isSet_78 : decode cX4_isSet 78 = .ok (.invokestatic 49, 3) := by decide +kernel
theorem dX4_isSet_81 : decode cX4_isSet 81 = .ok (.ireturn, 1) := by decide +kernel
theorem dX4_isSet_82 : decode cX4_isSet 82 = .ok (.iload_n 2, 1) := by decide +kernel
theorem dX4_isSet_83 : decode cX4_isSet 83 = .ok (.i2l, 1) := by decide +kernel
theorem dX4_isSet_84 : decode cX4_isSet 84 = .ok (.lconst 0, 1) := by decide +kernel
theorem dX4_isSet_85 : decode cX4_isSet 85 = .ok (.ldc2_w 138, 3) := by decide +kernel
theorem dX4_isSet_88 : decode cX4_isSet 88 = .ok (.invokestatic 49, 3) := by decide +kernel
theorem dX4_isSet_91 : decode cX4_isSet 91 = .ok (.ireturn, 1) := by decide +kernel
theorem dX4_isSet_92 : decode cX4_isSet 92 = .ok (.iload_n 2, 1) := by decide +kernel
theorem dX4_isSet_93 : decode cX4_isSet 93 = .ok (.iconst (-1), 1) := by decide +kernel
theorem dX4_isSet_94 : decode cX4_isSet 94 = .ok (.if_icmp .eq 11, 3) := by decide +kernel
theorem dX4_isSet_97 : decode cX4_isSet 97 = .ok (.aload_n 0, 1) := by decide +kernel
theorem dX4_isSet_98 : decode cX4_isSet 98 = .ok (.iload_n 2, 1) := by decide +kernel
theorem dX4_isSet_99 : decode cX4_isSet 99 = .ok (.invokevirtual 128, 3) := by decide +kernel
theorem dX4_isSet_102 : decode cX4_isSet 102 = .ok (.ifCond .eq 7, 3) := by decide +kernel
theorem dX4_isSet_105 : decode cX4_isSet 105 = .ok (.iconst 1, 1) := by decide +kernel
theorem dX4_isSet_106 : decode cX4_isSet 106 = .ok (.goto 4, 3) := by decide +kernel
theorem dX4_isSet_109 : decode cX4_isSet 109 = .ok (.iconst 0, 1) := by decide +kernel
theorem dX4_isSet_110 : decode cX4_isSet 110 = .ok (.ireturn, 1) := by decide +kernel
theorem dX4_isSet_111 : decode cX4_isSet 111 = .ok (.iload_n 1, 1) := by decide +kernel
theorem dX4_isSet_112 : decode cX4_isSet 112 = .ok (.bipush 8, 2) := by decide +kernel
theorem dX4_isSet_114 : decode cX4_isSet 114 = .ok (.if_icmp .ne 19, 3) := by decide +kernel
theorem dX4_isSet_117 : decode cX4_isSet 117 = .ok (.iload_n 2, 1) := by decide +kernel
theorem dX4_isSet_118 : decode cX4_isSet 118 = .ok (.i2l, 1) := by decide +kernel
theorem dX4_isSet_119 : decode cX4_isSet 119 = .ok (.lconst 0, 1) := by decide +kernel
theorem dX4_isSet_120 : decode cX4_isSet 120 = .ok (.ldc2_w 140, 3) := by decide +kernel
theorem dX4_isSet_123 : decode cX4_isSet 123 = .ok (.invokestatic 49, 3) := by decide +kernel
theorem dX4_isSet_126 : decode cX4_isSet 126 = .ok (.ifCond .eq 7, 3) := by decide +kernel
theorem dX4_isSet_129 : decode cX4_isSet 129 = .ok (.iconst 1, 1) := by decide +kernel
theorem dX4_isSet_130 : decode cX4_isSet 130 = .ok (.goto 4, 3) := by decide +kernel
theorem dX4_isSet_133 : decode cX4_isSet 133 = .ok (.iconst 0, 1) := by decide +kernel
theorem dX4_isSet_134 : decode cX4_isSet 134 = .ok (.ireturn, 1) := by decide +kernel
theorem dX4_set_0 : decode cX4_set 0 = .ok (.aload_n 0, 1) := by decide +kernel
theorem dX4_set_1 : decode cX4_set 1 = .ok (.iload_n 1, 1) := by decide +kernel
theorem dX4_set_2 : decode cX4_set 2 = .ok (.invokevirtual 128, 3) := by decide +kernel
theorem dX4_set_5 : decode cX4_set 5 = .ok (.ifCond .eq 25, 3) := by decide +kernel
theorem dX4_set_8 : decode cX4_set 8 = .ok (.aload_n 0, 1) := by decide +kernel
theorem dX4_set_9 : decode cX4_set 9 = .ok (.iload_n 2, 1) := by decide +kernel
theorem dX4_set_10 : decode cX4_set 10 = .ok (.iload_n 3, 1) := by decide +kernel
theorem dX4_set_11 : decode cX4_set 11 = .ok (.invokevirtual 142, 3) := by decide +kernel
theorem dX4_set_14 : decode cX4_set 14 = .ok (.ifCond .eq 16, 3) := by decide +kernel
theorem dX4_set_17 : decode cX4_set 17 = .ok (.aload_n 0, 1) := by decide +kernel
theorem dX4_set_18 : decode cX4_set 18 = .ok (.iload_n 1, 1) := by decide +kernel
theorem dX4_set_19 : decode cX4_set 19 = .ok (.iload_n 2, 1) := by decide +kernel
theorem dX4_set_20 : decode cX4_set 20 = .ok (.invokestatic 45, 3) := by decide +kernel
theorem dX4_set_23 : decode cX4_set 23 = .ok (.iload_n 3, 1) := by decide +kernel
theorem dX4_set_24 : decode cX4_set 24 = .ok (.invokevirtual 60, 3) := by decide +kernel
theorem dX4_set_27 : decode cX4_set 27 = .ok (.goto 9, 3) := by decide +kernel
theorem dX4_set_30 : decode cX4_set 30 = .ok (.aload_n 0, 1) := by decide +kernel
theorem dX4_set_31 : decode cX4_set 31 = .ok (.ldc 44, 2) := by decide +kernel
theorem dX4_set_33 : decode cX4_set 33 = .ok (.invokevirtual 63, 3) := by decide +kernel
theorem dX4_set_36 : decode cX4_set 36 = .ok (.ireturn, 1) := by decide +kernel
theorem dX4_seen_0 : decode cX4_seen 0 = .ok (.aload_n 0, 1) := by decide +kernel
theorem dX4_seen_1 : decode cX4_seen 1 = .ok (.iload_n 1, 1) := by decide +kernel
theorem dX4_seen_2 : decode cX4_seen 2 = .ok (.invokevirtual 128, 3) := by decide +kernel
theorem dX4_seen_5 : decode cX4_seen 5 = .ok (.ifCond .eq 11, 3) := by decide +kernel
theorem dX4_seen_8 : decode cX4_seen 8 = .ok (.aload_n 0, 1) := by decide +kernel
theorem dX4_seen_9 : decode cX4_seen 9 = .ok (.iload_n 1, 1) := by decide +kernel
theorem dX4_seen_10 : decode cX4_seen 10 = .ok (.invokevirtual 92, 3) := by decide +kernel
theorem dX4_seen_13 : decode cX4_seen 13 = .ok (.goto 9, 3) := by decide +kernel
theorem dX4_seen_16 : decode cX4_seen 16 = .ok (.aload_n 0, 1) := by decide +kernel
theorem dX4_seen_17 : decode cX4_seen 17 = .ok (.ldc 44, 2) := by decide +kernel
theorem dX4_seen_19 : decode cX4_seen 19 = .ok (.invokevirtual 63, 3) := by decide +kernel
theorem dX4_seen_22 : decode cX4_seen 22 = .ok (.ireturn, 1) := by decide +kernel
theorem dX4_turn_0 : decode cX4_turn 0 = .ok (.aload_n 0, 1) := by decide +kernel
theorem dX4_turn_1 : decode cX4_turn 1 = .ok (.iload_n 1, 1) := by decide +kernel
theorem dX4_turn_2 : decode cX4_turn 2 = .ok (.invokevirtual 128, 3) := by decide +kernel
theorem dX4_turn_5 : decode cX4_turn 5 = .ok (.ifCond .eq 23, 3) := by decide +kernel
theorem dX4_turn_8 : decode cX4_turn 8 = .ok (.iload_n 2, 1) := by decide +kernel
theorem dX4_turn_9 : decode cX4_turn 9 = .ok (.invokestatic 118, 3) := by decide +kernel
theorem dX4_turn_12 : decode cX4_turn 12 = .ok (.ifCond .eq 16, 3) := by decide +kernel
theorem dX4_turn_15 : decode cX4_turn 15 = .ok (.aload_n 0, 1) := by decide +kernel
theorem dX4_turn_16 : decode cX4_turn 16 = .ok (.iload_n 1, 1) := by decide +kernel
theorem dX4_turn_17 : decode cX4_turn 17 = .ok (.iconst 0, 1) := by decide +kernel
theorem dX4_turn_18 : decode cX4_turn 18 = .ok (.invokestatic 45, 3) := by decide +kernel
theorem dX4_turn_21 : decode cX4_turn 21 = .ok (.iload_n 2, 1) := by decide +kernel
theorem dX4_turn_22 : decode cX4_turn 22 = .ok (.invokevirtual 60, 3) := by decide +kernel
theorem dX4_turn_25 : decode cX4_turn 25 = .ok (.goto 9, 3) := by decide +kernel
theorem dX4_turn_28 : decode cX4_turn 28 = .ok (.aload_n 0, 1) := by decide +kernel
theorem dX4_turn_29 : decode cX4_turn 29 = .ok (.ldc 44, 2) := by decide +kernel
theorem dX4_turn_31 : decode cX4_turn 31 = .ok (.invokevirtual 63, 3) := by decide +kernel
theorem dX4_turn_34 : decode cX4_turn 34 = .ok (.ireturn, 1) := by decide +kernel
theorem dX4_isUnder_0 : decode cX4_isUnder 0 = .ok (.iload_n 1, 1) := by decide +kernel
theorem dX4_isUnder_1 : decode cX4_isUnder 1 = .ok (.ifCond .eq 28, 3) := by decide +kernel
theorem dX4_isUnder_4 : decode cX4_isUnder 4 = .ok (.iload_n 0, 1) := by decide +kernel
theorem dX4_isUnder_5 : decode cX4_isUnder 5 = .ok (.iload_n 1, 1) := by decide +kernel
theorem dX4_isUnder_6 : decode cX4_isUnder 6 = .ok (.if_icmp .eq 23, 3) := by decide +kernel
theorem dX4_isUnder_9 : decode cX4_isUnder 9 = .ok (.iload_n 0, 1) := by decide +kernel
theorem dX4_isUnder_10 : decode cX4_isUnder 10 = .ok (.iconst 4, 1) := by decide +kernel
theorem dX4_isUnder_11 : decode cX4_isUnder 11 = .ok (.if_icmp .ne 8, 3) := by decide +kernel
theorem dX4_isUnder_14 : decode cX4_isUnder 14 = .ok (.iload_n 1, 1) := by decide +kernel
theorem dX4_isUnder_15 : decode cX4_isUnder 15 = .ok (.iconst 1, 1) := by decide +kernel
theorem dX4_isUnder_16 : decode cX4_isUnder 16 = .ok (.if_icmp .eq 13, 3) := by decide +kernel
theorem dX4_isUnder_19 : decode cX4_isUnder 19 = .ok (.iload_n 0, 1) := by decide +kernel
theorem dX4_isUnder_20 : decode cX4_isUnder 20 = .ok (.iconst 5, 1) := by decide +kernel
theorem dX4_isUnder_21 : decode cX4_isUnder 21 = .ok (.if_icmp .ne 12, 3) := by decide +kernel
theorem dX4_isUnder_24 : decode cX4_isUnder 24 = .ok (.iload_n 1, 1) := by decide +kernel
theorem dX4_isUnder_25 : decode cX4_isUnder 25 = .ok (.iconst 2, 1) := by decide +kernel
theorem dX4_isUnder_26 : decode cX4_isUnder 26 = .ok (.if_icmp .ne 7, 3) := by decide +kernel
theorem dX4_isUnder_29 : decode cX4_isUnder 29 = .ok (.iconst 1, 1) := by decide +kernel
theorem dX4_isUnder_30 : decode cX4_isUnder 30 = .ok (.goto 4, 3) := by decide +kernel
theorem dX4_isUnder_33 : decode cX4_isUnder 33 = .ok (.iconst 0, 1) := by decide +kernel
theorem dX4_isUnder_34 : decode cX4_isUnder 34 = .ok (.ireturn, 1) := by decide +kernel
theorem dX4_as_0 : decode cX4_as 0 = .ok (.aload_n 0, 1) := by decide +kernel
theorem dX4_as_1 : decode cX4_as 1 = .ok (.iload_n 1, 1) := by decide +kernel
theorem dX4_as_2 : decode cX4_as 2 = .ok (.invokevirtual 128, 3) := by decide +kernel
theorem dX4_as_5 : decode cX4_as 5 = .ok (.ifCond .eq 10, 3) := by decide +kernel
theorem dX4_as_8 : decode cX4_as 8 = .ok (.iload_n 2, 1) := by decide +kernel
theorem dX4_as_9 : decode cX4_as 9 = .ok (.invokestatic 118, 3) := by decide +kernel
theorem dX4_as_12 : decode cX4_as 12 = .ok (.ifCond .ne 10, 3) := by decide +kernel
theorem dX4_as_15 : decode cX4_as 15 = .ok (.aload_n 0, 1) := by decide +kernel
theorem dX4_as_16 : decode cX4_as 16 = .ok (.ldc 44, 2) := by decide +kernel
theorem dX4_as_18 : decode cX4_as 18 = .ok (.invokevirtual 63, 3) := by decide +kernel
theorem dX4_as_21 : decode cX4_as 21 = .ok (.ireturn, 1) := by decide +kernel
theorem dX4_as_22 : decode cX4_as 22 = .ok (.aload_n 0, 1) := by decide +kernel
theorem dX4_as_23 : decode cX4_as 23 = .ok (.iload_n 1, 1) := by decide +kernel
theorem dX4_as_24 : decode cX4_as 24 = .ok (.iconst 0, 1) := by decide +kernel
theorem dX4_as_25 : decode cX4_as 25 = .ok (.invokevirtual 55, 3) := by decide +kernel
theorem dX4_as_28 : decode cX4_as 28 = .ok (.iload_n 2, 1) := by decide +kernel
theorem dX4_as_29 : decode cX4_as 29 = .ok (.invokestatic 145, 3) := by decide +kernel
theorem dX4_as_32 : decode cX4_as 32 = .ok (.ifCond .eq 12, 3) := by decide +kernel
theorem dX4_as_35 : decode cX4_as 35 = .ok (.aload_n 0, 1) := by decide +kernel
theorem dX4_as_36 : decode cX4_as 36 = .ok (.iload_n 1, 1) := by decide +kernel
theorem dX4_as_37 : decode cX4_as 37 = .ok (.iconst 3, 1) := by decide +kernel
theorem dX4_as_38 : decode cX4_as 38 = .ok (.invokevirtual 55, 3) := by decide +kernel
theorem dX4_as_41 : decode cX4_as 41 = .ok (.goto 9, 3) := by decide +kernel
theorem dX4_as_44 : decode cX4_as 44 = .ok (.aload_n 0, 1) := by decide +kernel
theorem dX4_as_45 : decode cX4_as 45 = .ok (.ldc 148, 2) := by decide +kernel
theorem dX4_as_47 : decode cX4_as 47 = .ok (.invokevirtual 63, 3) := by decide +kernel
theorem dX4_as_50 : decode cX4_as 50 = .ok (.ireturn, 1) := by decide +kernel
theorem dX4_columnBy_0 : decode cX4_columnBy 0 = .ok (.aload_n 0, 1) := by decide +kernel
theorem dX4_columnBy_1 : decode cX4_columnBy 1 = .ok (.iload_n 1, 1) := by decide +kernel
theorem dX4_columnBy_2 : decode cX4_columnBy 2 = .ok (.iconst 2, 1) := by decide +kernel
theorem dX4_columnBy_3 : decode cX4_columnBy 3 = .ok (.invokevirtual 55, 3) := by decide +kernel
theorem dX4_columnBy_6 : decode cX4_columnBy 6 = .ok (.istore_n 3, 1) := by decide +kernel
theorem dX4_columnBy_7 : decode cX4_columnBy 7 = .ok (.aload_n 0, 1) := by decide +kernel
theorem dX4_columnBy_8 : decode cX4_columnBy 8 = .ok (.getfield 7, 3) := by decide +kernel
theorem dX4_columnBy_11 : decode cX4_columnBy 11 = .ok (.aload_n 0, 1) := by decide +kernel
theorem dX4_columnBy_12 : decode cX4_columnBy 12 = .ok (.iload_n 1, 1) := by decide +kernel
theorem dX4_columnBy_13 : decode cX4_columnBy 13 = .ok (.bipush 6, 2) := by decide +kernel
theorem dX4_columnBy_15 : decode cX4_columnBy 15 = .ok (.invokevirtual 55, 3) := by decide +kernel
theorem dX4_columnBy_18 : decode cX4_columnBy 18 = .ok (.iconst 2, 1) := by decide +kernel
theorem dX4_columnBy_19 : decode cX4_columnBy 19 = .ok (.invokestatic 45, 3) := by decide +kernel
theorem dX4_columnBy_22 : decode cX4_columnBy 22 = .ok (.iaload, 1) := by decide +kernel
theorem dX4_columnBy_23 : decode cX4_columnBy 23 = .ok (.istore 4, 2) := by decide +kernel
theorem dX4_columnBy_25 : decode cX4_columnBy 25 = .ok (.aload_n 0, 1) := by decide +kernel
theorem dX4_columnBy_26 : decode cX4_columnBy 26 = .ok (.iload_n 1, 1) := by decide +kernel
theorem dX4_columnBy_27 : decode cX4_columnBy 27 = .ok (.iconst 5, 1) := by decide +kernel
theorem dX4_columnBy_28 : decode cX4_columnBy 28 = .ok (.invokevirtual 55, 3) := by decide +kernel
theorem dX4_columnBy_31 : decode cX4_columnBy 31 = .ok (.iconst 2, 1) := by decide +kernel
theorem dX4_columnBy_32 : decode cX4_columnBy 32 = .ok (.if_icmp .ne 25, 3) := by decide +kernel
theorem dX4_columnBy_35 : decode cX4_columnBy 35 = .ok (.iload_n 3, 1) := by decide +kernel
theorem dX4_columnBy_36 : decode cX4_columnBy 36 = .ok (.iload 4, 2) := by decide +kernel
theorem dX4_columnBy_38 : decode cX4_columnBy 38 = .ok (.if_icmp .gt 9, 3) := by decide +kernel
theorem dX4_columnBy_41 : decode cX4_columnBy 41 = .ok (.iload_n 3, 1) := by decide +kernel
theorem dX4_columnBy_42 : decode cX4_columnBy 42 = .ok (.iload_n 2, 1) := by decide +kernel
theorem dX4_columnBy_43 : decode cX4_columnBy 43 = .ok (.isub, 1) := by decide +kernel
theorem dX4_columnBy_44 : decode cX4_columnBy 44 = .ok (.goto 6, 3) := by decide +kernel
theorem dX4_columnBy_47 : decode cX4_columnBy 47 = .ok (.iload_n 3, 1) := by decide +kernel
theorem dX4_columnBy_48 : decode cX4_columnBy 48 = .ok (.iload_n 2, 1) := by decide +kernel
theorem dX4_columnBy_49 : decode cX4_columnBy 49 = .ok (.iadd, 1) := by decide +kernel
theorem dX4_columnBy_50 : decode cX4_columnBy 50 = .ok (.iconst 0, 1) := by decide +kernel
theorem dX4_columnBy_51 : decode cX4_columnBy 51 = .ok (.bipush 19, 2) := by decide +kernel
theorem dX4_columnBy_53 : decode cX4_columnBy 53 = .ok (.invokestatic 149, 3) := by decide +kernel
theorem dX4_columnBy_56 : decode cX4_columnBy 56 = .ok (.ireturn, 1) := by decide +kernel
theorem dX4_columnBy_57 : decode cX4_columnBy 57 = .ok (.aload_n 0, 1) := by decide +kernel
theorem dX4_columnBy_58 : decode cX4_columnBy 58 = .ok (.iload_n 1, 1) := by decide +kernel
theorem dX4_columnBy_59 : decode cX4_columnBy 59 = .ok (.aload_n 0, 1) := by decide +kernel
theorem dX4_columnBy_60 : decode cX4_columnBy 60 = .ok (.iload_n 1, 1) := by decide +kernel
theorem dX4_columnBy_61 : decode cX4_columnBy 61 = .ok (.bipush 6, 2) := by decide +kernel
theorem dX4_columnBy_63 : decode cX4_columnBy 63 = .ok (.invokevirtual 55, 3) := by decide +kernel
theorem dX4_columnBy_66 : decode cX4_columnBy 66 = .ok (.invokevirtual 79, 3) := by decide +kernel
theorem dX4_columnBy_69 : decode cX4_columnBy 69 = .ok (.iconst 1, 1) := by decide +kernel
theorem dX4_columnBy_70 : decode cX4_columnBy 70 = .ok (.isub, 1) := by decide +kernel
theorem dX4_columnBy_71 : decode cX4_columnBy 71 = .ok (.istore 5, 2) := by decide +kernel
theorem dX4_columnBy_73 : decode cX4_columnBy 73 = .ok (.iload_n 2, 1) := by decide +kernel
theorem dX4_columnBy_74 : decode cX4_columnBy 74 = .ok (.iload 5, 2) := by decide +kernel
theorem dX4_columnBy_76 : decode cX4_columnBy 76 = .ok (.if_icmp .ge 7, 3) := by decide +kernel
theorem dX4_columnBy_79 : decode cX4_columnBy 79 = .ok (.iload_n 2, 1) := by decide +kernel
theorem dX4_columnBy_80 : decode cX4_columnBy 80 = .ok (.goto 5, 3) := by decide +kernel
theorem dX4_columnBy_83 : decode cX4_columnBy 83 = .ok (.iload 5, 2) := by decide +kernel
theorem dX4_columnBy_85 : decode cX4_columnBy 85 = .ok (.istore 6, 2) := by decide +kernel
theorem dX4_columnBy_87 : decode cX4_columnBy 87 = .ok (.iload_n 3, 1) := by decide +kernel
theorem dX4_columnBy_88 : decode cX4_columnBy 88 = .ok (.iload 4, 2) := by decide +kernel
theorem dX4_columnBy_90 : decode cX4_columnBy 90 = .ok (.if_icmp .ge 10, 3) := by decide +kernel
theorem dX4_columnBy_93 : decode cX4_columnBy 93 = .ok (.iload_n 3, 1) := by decide +kernel
theorem dX4_columnBy_94 : decode cX4_columnBy 94 = .ok (.iload 6, 2) := by decide +kernel
theorem dX4_columnBy_96 : decode cX4_columnBy 96 = .ok (.iadd, 1) := by decide +kernel
theorem dX4_columnBy_97 : decode cX4_columnBy 97 = .ok (.goto 7, 3) := by decide +kernel
theorem dX4_columnBy_100 : decode cX4_columnBy 100 = .ok (.iload_n 3, 1) := by decide +kernel
theorem dX4_columnBy_101 : decode cX4_columnBy 101 = .ok (.iload 6, 2) := by decide +kernel
theorem dX4_columnBy_103 : decode cX4_columnBy 103 = .ok (.isub, 1) := by decide +kernel
theorem dX4_columnBy_104 : decode cX4_columnBy 104 = .ok (.ireturn, 1) := by decide +kernel
theorem dX4_works_0 : decode cX4_works 0 = .ok (.aload_n 0, 1) := by decide +kernel
theorem dX4_works_1 : decode cX4_works 1 = .ok (.iload_n 1, 1) := by decide +kernel
theorem dX4_works_2 : decode cX4_works 2 = .ok (.invokevirtual 133, 3) := by decide +kernel
theorem dX4_works_5 : decode cX4_works 5 = .ok (.istore_n 2, 1) := by decide +kernel
theorem dX4_works_6 : decode cX4_works 6 = .ok (.aload_n 0, 1) := by decide +kernel
theorem dX4_works_7 : decode cX4_works 7 = .ok (.iload_n 1, 1) := by decide +kernel
theorem dX4_works_8 : decode cX4_works 8 = .ok (.iconst 5, 1) := by decide +kernel
theorem dX4_works_9 : decode cX4_works 9 = .ok (.invokevirtual 55, 3) := by decide +kernel
theorem dX4_works_12 : decode cX4_works 12 = .ok (.ifCond .ne 7, 3) := by decide +kernel
theorem dX4_works_15 : decode cX4_works 15 = .ok (.iconst 3, 1) := by decide +kernel
theorem dX4_works_16 : decode cX4_works 16 = .ok (.goto 18, 3) := by decide +kernel
theorem dX4_works_19 : decode cX4_works 19 = .ok (.aload_n 0, 1) := by decide +kernel
theorem dX4_works_20 : decode cX4_works 20 = .ok (.iload_n 1, 1) := by decide +kernel
theorem dX4_works_21 : decode cX4_works 21 = .ok (.iconst 5, 1) := by decide +kernel
theorem dX4_works_22 : decode cX4_works 22 = .ok (.invokevirtual 55, 3) := by decide +kernel
theorem dX4_works_25 : decode cX4_works 25 = .ok (.iconst 2, 1) := by decide +kernel
theorem dX4_works_26 : decode cX4_works 26 = .ok (.if_icmp .gt 7, 3) := by decide +kernel
theorem dX4_works_29 : decode cX4_works 29 = .ok (.iconst 2, 1) := by decide +kernel
theorem dX4_works_30 : decode cX4_works 30 = .ok (.goto 4, 3) := by decide +kernel
theorem dX4_works_33 : decode cX4_works 33 = .ok (.iconst 4, 1) := by decide +kernel
theorem dX4_works_34 : decode cX4_works 34 = .ok (.istore_n 3, 1) := by decide +kernel
theorem dX4_works_35 : decode cX4_works 35 = .ok (.aload_n 0, 1) := by decide +kernel
theorem dX4_works_36 : decode cX4_works 36 = .ok (.iload_n 1, 1) := by decide +kernel
theorem dX4_works_37 : decode cX4_works 37 = .ok (.iload_n 3, 1) := by decide +kernel
theorem dX4_works_38 : decode cX4_works 38 = .ok (.invokevirtual 55, 3) := by decide +kernel
theorem dX4_works_41 : decode cX4_works 41 = .ok (.istore 4, 2) := by decide +kernel
theorem dX4_works_43 : decode cX4_works 43 = .ok (.iload_n 3, 1) := by decide +kernel
theorem dX4_works_44 : decode cX4_works 44 = .ok (.iconst 3, 1) := by decide +kernel
theorem dX4_works_45 : decode cX4_works 45 = .ok (.if_icmp .ne 16, 3) := by decide +kernel
theorem dX4_works_48 : decode cX4_works 48 = .ok (.iload 4, 2) := by decide +kernel
theorem dX4_works_50 : decode cX4_works 50 = .ok (.iload_n 2, 1) := by decide +kernel
theorem dX4_works_51 : decode cX4_works 51 = .ok (.isub, 1) := by decide +kernel
theorem dX4_works_52 : decode cX4_works 52 = .ok (.iconst 0, 1) := by decide +kernel
theorem dX4_works_53 : decode cX4_works 53 = .ok (.bipush 99, 2) := by decide +kernel
theorem dX4_works_55 : decode cX4_works 55 = .ok (.invokestatic 149, 3) := by decide +kernel
theorem dX4_works_58 : decode cX4_works 58 = .ok (.goto 21, 3) := by decide +kernel
theorem dX4_works_61 : decode cX4_works 61 = .ok (.iload_n 3, 1) := by decide +kernel
theorem dX4_works_62 : decode cX4_works 62 = .ok (.iconst 2, 1) := by decide +kernel
theorem dX4_works_63 : decode cX4_works 63 = .ok (.if_icmp .ne 12, 3) := by decide +kernel
theorem dX4_works_66 : decode cX4_works 66 = .ok (.aload_n 0, 1) := by decide +kernel
theorem dX4_works_67 : decode cX4_works 67 = .ok (.iload_n 1, 1) := by decide +kernel
theorem dX4_works_68 : decode cX4_works 68 = .ok (.iload_n 2, 1) := by decide +kernel
theorem dX4_works_69 : decode cX4_works 69 = .ok (.invokevirtual 152, 3) := by decide +kernel
theorem dX4_works_72 : decode cX4_works 72 = .ok (.goto 7, 3) := by decide +kernel
theorem dX4_works_75 : decode cX4_works 75 = .ok (.iconst 1, 1) := by decide +kernel
theorem dX4_works_76 : decode cX4_works 76 = .ok (.iload 4, 2) := by decide +kernel
theorem dX4_works_78 : decode cX4_works 78 = .ok (.isub, 1) := by decide +kernel
theorem dX4_works_79 : decode cX4_works 79 = .ok (.istore 5, 2) := by decide +kernel
theorem dX4_works_81 : decode cX4_works 81 = .ok (.iload_n 2, 1) := by decide +kernel
theorem dX4_works_82 : decode cX4_works 82 = .ok (.ifCond .le 49, 3) := by decide +kernel
theorem dX4_works_85 : decode cX4_works 85 = .ok (.iload 5, 2) := by decide +kernel
theorem dX4_works_87 : decode cX4_works 87 = .ok (.iload 4, 2) := by decide +kernel
theorem dX4_works_89 : decode cX4_works 89 = .ok (.if_icmp .eq 42, 3) := by decide +kernel
theorem dX4_works_92 : decode cX4_works 92 = .ok (.aload_n 0, 1) := by decide +kernel
theorem dX4_works_93 : decode cX4_works 93 = .ok (.getfield 7, 3) := by decide +kernel
theorem dX4_works_96 : decode cX4_works 96 = .ok (.iload_n 1, 1) := by decide +kernel
theorem dX4_works_97 : decode cX4_works 97 = .ok (.iload_n 3, 1) := by decide +kernel
theorem dX4_works_98 : decode cX4_works 98 = .ok (.invokestatic 45, 3) := by decide +kernel
theorem dX4_works_101 : decode cX4_works 101 = .ok (.iload 5, 2) := by decide +kernel
theorem dX4_works_103 : decode cX4_works 103 = .ok (.iastore, 1) := by decide +kernel
theorem dX4_works_104 : decode cX4_works 104 = .ok (.aload_n 0, 1) := by decide +kernel
theorem dX4_works_105 : decode cX4_works 105 = .ok (.getfield 7, 3) := by decide +kernel
theorem dX4_works_108 : decode cX4_works 108 = .ok (.iload_n 1, 1) := by decide +kernel
theorem dX4_works_109 : decode cX4_works 109 = .ok (.bipush 8, 2) := by decide +kernel
theorem dX4_works_111 : decode cX4_works 111 = .ok (.invokestatic 45, 3) := by decide +kernel
theorem dX4_works_114 : decode cX4_works 114 = .ok (.aload_n 0, 1) := by decide +kernel
theorem dX4_works_115 : decode cX4_works 115 = .ok (.iload_n 1, 1) := by decide +kernel
theorem dX4_works_116 : decode cX4_works 116 = .ok (.bipush 8, 2) := by decide +kernel
theorem dX4_works_118 : decode cX4_works 118 = .ok (.invokevirtual 55, 3) := by decide +kernel
theorem dX4_works_121 : decode cX4_works 121 = .ok (.iconst 1, 1) := by decide +kernel
theorem dX4_works_122 : decode cX4_works 122 = .ok (.iadd, 1) := by decide +kernel
theorem dX4_works_123 : decode cX4_works 123 = .ok (.iconst 0, 1) := by decide +kernel
theorem dX4_works_124 : decode cX4_works 124 = .ok (.sipush 9999, 3) := by decide +kernel
theorem dX4_works_127 : decode cX4_works 127 = .ok (.invokestatic 149, 3) := by decide +kernel
theorem dX4_works_130 : decode cX4_works 130 = .ok (.iastore, 1) := by decide +kernel
theorem dX4_works_131 : decode cX4_works 131 = .ok (.return_, 1) := by decide +kernel
theorem dX4_hour_0 : decode cX4_hour 0 = .ok (.iconst 0, 1) := by decide +kernel
theorem dX4_hour_1 : decode cX4_hour 1 = .ok (.istore_n 1, 1) := by decide +kernel
theorem dX4_hour_2 : decode cX4_hour 2 = .ok (.iload_n 1, 1) := by decide +kernel
theorem dX4_hour_3 : decode cX4_hour 3 = .ok (.aload_n 0, 1) := by decide +kernel
theorem dX4_hour_4 : decode cX4_hour 4 = .ok (.getfield 7, 3) := by decide +kernel
theorem dX4_hour_7 : decode cX4_hour 7 = .ok (.iconst 1, 1) := by decide +kernel
theorem dX4_hour_8 : decode cX4_hour 8 = .ok (.iaload, 1) := by decide +kernel
theorem dX4_hour_9 : decode cX4_hour 9 = .ok (.if_icmp .ge 40, 3) := by decide +kernel
theorem dX4_hour_12 : decode cX4_hour 12 = .ok (.aload_n 0, 1) := by decide +kernel
theorem dX4_hour_13 : decode cX4_hour 13 = .ok (.iload_n 1, 1) := by decide +kernel
theorem dX4_hour_14 : decode cX4_hour 14 = .ok (.bipush 7, 2) := by decide +kernel
theorem dX4_hour_16 : decode cX4_hour 16 = .ok (.invokevirtual 55, 3) := by decide +kernel
theorem dX4_hour_19 : decode cX4_hour 19 = .ok (.ifCond .ne 24, 3) := by decide +kernel
theorem dX4_hour_22 : decode cX4_hour 22 = .ok (.aload_n 0, 1) := by decide +kernel
theorem dX4_hour_23 : decode cX4_hour 23 = .ok (.iload_n 1, 1) := by decide +kernel
theorem dX4_hour_24 : decode cX4_hour 24 = .ok (.invokevirtual 82, 3) := by decide +kernel
theorem dX4_hour_27 : decode cX4_hour 27 = .ok (.ifCond .ne 16, 3) := by decide +kernel
theorem dX4_hour_30 : decode cX4_hour 30 = .ok (.aload_n 0, 1) := by decide +kernel
theorem dX4_hour_31 : decode cX4_hour 31 = .ok (.iload_n 1, 1) := by decide +kernel
theorem dX4_hour_32 : decode cX4_hour 32 = .ok (.invokevirtual 98, 3) := by decide +kernel
theorem dX4_hour_35 : decode cX4_hour 35 = .ok (.ifCond .ne 8, 3) := by decide +kernel
theorem dX4_hour_38 : decode cX4_hour 38 = .ok (.aload_n 0, 1) := by decide +kernel
theorem dX4_hour_39 : decode cX4_hour 39 = .ok (.iload_n 1, 1) := by decide +kernel
theorem dX4_hour_40 : decode cX4_hour 40 = .ok (.invokevirtual 155, 3) := by decide +kernel
theorem dX4_hour_43 : decode cX4_hour 43 = .ok (.iinc 1 1, 3) := by decide +kernel
theorem dX4_hour_46 : decode cX4_hour 46 = .ok (.goto (-44), 3) := by decide +kernel
theorem dX4_hour_49 : decode cX4_hour 49 = .ok (.aload_n 0, 1) := by decide +kernel
theorem dX4_hour_50 : decode cX4_hour 50 = .ok (.getfield 7, 3) := by decide +kernel
theorem dX4_hour_53 : decode cX4_hour 53 = .ok (.iconst 0, 1) := by decide +kernel
theorem dX4_hour_54 : decode cX4_hour 54 = .ok (.dup2, 1) := by decide +kernel
theorem dX4_hour_55 : decode cX4_hour 55 = .ok (.iaload, 1) := by decide +kernel
theorem dX4_hour_56 : decode cX4_hour 56 = .ok (.iconst 1, 1) := by decide +kernel
theorem dX4_hour_57 : decode cX4_hour 57 = .ok (.iadd, 1) := by decide +kernel
theorem dX4_hour_58 : decode cX4_hour 58 = .ok (.iastore, 1) := by decide +kernel
theorem dX4_hour_59 : decode cX4_hour 59 = .ok (.return_, 1) := by decide +kernel
theorem dX4_hoursGo_0 : decode cX4_hoursGo 0 = .ok (.iconst 0, 1) := by decide +kernel
theorem dX4_hoursGo_1 : decode cX4_hoursGo 1 = .ok (.istore_n 2, 1) := by decide +kernel
theorem dX4_hoursGo_2 : decode cX4_hoursGo 2 = .ok (.iload_n 2, 1) := by decide +kernel
theorem dX4_hoursGo_3 : decode cX4_hoursGo 3 = .ok (.iload_n 1, 1) := by decide +kernel
theorem dX4_hoursGo_4 : decode cX4_hoursGo 4 = .ok (.if_icmp .ge 13, 3) := by decide +kernel
theorem dX4_hoursGo_7 : decode cX4_hoursGo 7 = .ok (.aload_n 0, 1) := by decide +kernel
theorem dX4_hoursGo_8 : decode cX4_hoursGo 8 = .ok (.invokevirtual 159, 3) := by decide +kernel
theorem dX4_hoursGo_11 : decode cX4_hoursGo 11 = .ok (.iinc 2 1, 3) := by decide +kernel
theorem dX4_hoursGo_14 : decode cX4_hoursGo 14 = .ok (.goto (-12), 3) := by decide +kernel
theorem dX4_hoursGo_17 : decode cX4_hoursGo 17 = .ok (.return_, 1) := by decide +kernel
theorem dX4_hours_0 : decode cX4_hours 0 = .ok (.iload_n 1, 1) := by decide +kernel
theorem dX4_hours_1 : decode cX4_hours 1 = .ok (.i2l, 1) := by decide +kernel
theorem dX4_hours_2 : decode cX4_hours 2 = .ok (.lconst 1, 1) := by decide +kernel
theorem dX4_hours_3 : decode cX4_hours 3 = .ok (.ldc2_w 162, 3) := by decide +kernel
theorem dX4_hours_6 : decode cX4_hours 6 = .ok (.invokestatic 49, 3) := by decide +kernel
theorem dX4_hours_9 : decode cX4_hours 9 = .ok (.ifCond .ne 10, 3) := by decide +kernel
theorem dX4_hours_12 : decode cX4_hours 12 = .ok (.aload_n 0, 1) := by decide +kernel
theorem dX4_hours_13 : decode cX4_hours 13 = .ok (.ldc 44, 2) := by decide +kernel
theorem dX4_hours_15 : decode cX4_hours 15 = .ok (.invokevirtual 63, 3) := by decide +kernel
theorem dX4_hours_18 : decode cX4_hours 18 = .ok (.ireturn, 1) := by decide +kernel
theorem dX4_hours_19 : decode cX4_hours 19 = .ok (.aload_n 0, 1) := by decide +kernel
theorem dX4_hours_20 : decode cX4_hours 20 = .ok (.getfield 7, 3) := by decide +kernel
theorem dX4_hours_23 : decode cX4_hours 23 = .ok (.iconst 0, 1) := by decide +kernel
theorem dX4_hours_24 : decode cX4_hours 24 = .ok (.iaload, 1) := by decide +kernel
theorem dX4_hours_25 : decode cX4_hours 25 = .ok (.iload_n 1, 1) := by decide +kernel
theorem dX4_hours_26 : decode cX4_hours 26 = .ok (.iadd, 1) := by decide +kernel
theorem dX4_hours_27 : decode cX4_hours 27 = .ok (.ldc 164, 2) := by decide +kernel
theorem dX4_hours_29 : decode cX4_hours 29 = .ok (.if_icmp .le 10, 3) := by decide +kernel
theorem dX4_hours_32 : decode cX4_hours 32 = .ok (.aload_n 0, 1) := by decide +kernel
theorem dX4_hours_33 : decode cX4_hours 33 = .ok (.ldc 165, 2) := by decide +kernel
theorem dX4_hours_35 : decode cX4_hours 35 = .ok (.invokevirtual 63, 3) := by decide +kernel
theorem dX4_hours_38 : decode cX4_hours 38 = .ok (.ireturn, 1) := by decide +kernel
theorem dX4_hours_39 : decode cX4_hours 39 = .ok (.aload_n 0, 1) := by decide +kernel
theorem dX4_hours_40 : decode cX4_hours 40 = .ok (.iload_n 1, 1) := by decide +kernel
theorem dX4_hours_41 : decode cX4_hours 41 = .ok (.invokevirtual 166, 3) := by decide +kernel
theorem dX4_hours_44 : decode cX4_hours 44 = .ok (.aload_n 0, 1) := by decide +kernel
theorem dX4_hours_45 : decode cX4_hours 45 = .ok (.invokevirtual 101, 3) := by decide +kernel
theorem dX4_hours_48 : decode cX4_hours 48 = .ok (.ireturn, 1) := by decide +kernel
theorem dX4_isAhead_0 : decode cX4_isAhead 0 = .ok (.iload_n 0, 1) := by decide +kernel
theorem dX4_isAhead_1 : decode cX4_isAhead 1 = .ok (.i2l, 1) := by decide +kernel
theorem dX4_isAhead_2 : decode cX4_isAhead 2 = .ok (.lconst 0, 1) := by decide +kernel
theorem dX4_isAhead_3 : decode cX4_isAhead 3 = .ok (.ldc2_w 169, 3) := by decide +kernel
theorem dX4_isAhead_6 : decode cX4_isAhead 6 = .ok (.invokestatic 49, 3) := by decide +kernel
theorem dX4_isAhead_9 : decode cX4_isAhead 9 = .ok (.ireturn, 1) := by decide +kernel
theorem dX4_behind_0 : decode cX4_behind 0 = .ok (.aload_n 0, 1) := by decide +kernel
theorem dX4_behind_1 : decode cX4_behind 1 = .ok (.invokevirtual 171, 3) := by decide +kernel
theorem dX4_behind_4 : decode cX4_behind 4 = .ok (.aload_n 0, 1) := by decide +kernel
theorem dX4_behind_5 : decode cX4_behind 5 = .ok (.iload_n 2, 1) := by decide +kernel
theorem dX4_behind_6 : decode cX4_behind 6 = .ok (.invokevirtual 166, 3) := by decide +kernel
theorem dX4_behind_9 : decode cX4_behind 9 = .ok (.aload_n 0, 1) := by decide +kernel
theorem dX4_behind_10 : decode cX4_behind 10 = .ok (.aload_n 0, 1) := by decide +kernel
theorem dX4_behind_11 : decode cX4_behind 11 = .ok (.getfield 7, 3) := by decide +kernel
theorem dX4_behind_14 : decode cX4_behind 14 = .ok (.iload_n 1, 1) := by decide +kernel
theorem dX4_behind_15 : decode cX4_behind 15 = .ok (.iaload, 1) := by decide +kernel
theorem dX4_behind_16 : decode cX4_behind 16 = .ok (.invokevirtual 174, 3) := by decide +kernel
theorem dX4_behind_19 : decode cX4_behind 19 = .ok (.ireturn, 1) := by decide +kernel
theorem dX4_contentMany_0 : decode cX4_contentMany 0 = .ok (.iconst 0, 1) := by decide +kernel
theorem dX4_contentMany_1 : decode cX4_contentMany 1 = .ok (.istore_n 1, 1) := by decide +kernel
theorem dX4_contentMany_2 : decode cX4_contentMany 2 = .ok (.iconst 0, 1) := by decide +kernel
theorem dX4_contentMany_3 : decode cX4_contentMany 3 = .ok (.istore_n 2, 1) := by decide +kernel
theorem dX4_contentMany_4 : decode cX4_contentMany 4 = .ok (.iload_n 2, 1) := by decide +kernel
theorem dX4_contentMany_5 : decode cX4_contentMany 5 = .ok (.aload_n 0, 1) := by decide +kernel
theorem dX4_contentMany_6 : decode cX4_contentMany 6 = .ok (.getfield 7, 3) := by decide +kernel
theorem dX4_contentMany_9 : decode cX4_contentMany 9 = .ok (.iconst 1, 1) := by decide +kernel
theorem dX4_contentMany_10 : decode cX4_contentMany 10 = .ok (.iaload, 1) := by decide +kernel
theorem dX4_contentMany_11 : decode cX4_contentMany 11 = .ok (.if_icmp .ge 25, 3) := by decide +kernel
theorem dX4_contentMany_14 : decode cX4_contentMany 14 = .ok (.iload_n 1, 1) := by decide +kernel
theorem dX4_contentMany_15 : decode cX4_contentMany 15 = .ok (.aload_n 0, 1) := by decide +kernel
theorem dX4_contentMany_16 : decode cX4_contentMany 16 = .ok (.iload_n 2, 1) := by decide +kernel
theorem dX4_contentMany_17 : decode cX4_contentMany 17 = .ok (.invokevirtual 82, 3) := by decide +kernel
theorem dX4_contentMany_20 : decode cX4_contentMany 20 = .ok (.ifCond .eq 7, 3) := by decide +kernel
theorem dX4_contentMany_23 : decode cX4_contentMany 23 = .ok (.iconst 1, 1) := by decide +kernel
theorem dX4_contentMany_24 : decode cX4_contentMany 24 = .ok (.goto 4, 3) := by decide +kernel
theorem dX4_contentMany_27 : decode cX4_contentMany 27 = .ok (.iconst 0, 1) := by decide +kernel
theorem dX4_contentMany_28 : decode cX4_contentMany 28 = .ok (.iadd, 1) := by decide +kernel
theorem dX4_contentMany_29 : decode cX4_contentMany 29 = .ok (.istore_n 1, 1) := by decide +kernel
theorem dX4_contentMany_30 : decode cX4_contentMany 30 = .ok (.iinc 2 1, 3) := by decide +kernel
theorem dX4_contentMany_33 : decode cX4_contentMany 33 = .ok (.goto (-29), 3) := by decide +kernel
theorem dX4_contentMany_36 : decode cX4_contentMany 36 = .ok (.iload_n 1, 1) := by decide +kernel
theorem dX4_contentMany_37 : decode cX4_contentMany 37 = .ok (.ireturn, 1) := by decide +kernel
theorem dX4_manyBehind_0 : decode cX4_manyBehind 0 = .ok (.aload_n 0, 1) := by decide +kernel
theorem dX4_manyBehind_1 : decode cX4_manyBehind 1 = .ok (.invokevirtual 171, 3) := by decide +kernel
theorem dX4_manyBehind_4 : decode cX4_manyBehind 4 = .ok (.aload_n 0, 1) := by decide +kernel
theorem dX4_manyBehind_5 : decode cX4_manyBehind 5 = .ok (.iload_n 1, 1) := by decide +kernel
theorem dX4_manyBehind_6 : decode cX4_manyBehind 6 = .ok (.invokevirtual 166, 3) := by decide +kernel
theorem dX4_manyBehind_9 : decode cX4_manyBehind 9 = .ok (.aload_n 0, 1) := by decide +kernel
theorem dX4_manyBehind_10 : decode cX4_manyBehind 10 = .ok (.aload_n 0, 1) := by decide +kernel
theorem dX4_manyBehind_11 : decode cX4_manyBehind 11 = .ok (.invokevirtual 177, 3) := by decide +kernel
theorem dX4_manyBehind_14 : decode cX4_manyBehind 14 = .ok (.invokevirtual 174, 3) := by decide +kernel
theorem dX4_manyBehind_17 : decode cX4_manyBehind 17 = .ok (.ireturn, 1) := by decide +kernel
theorem dX4_on_0 : decode cX4_on 0 = .ok (.aload_n 0, 1) := by decide +kernel
theorem dX4_on_1 : decode cX4_on 1 = .ok (.iload_n 1, 1) := by decide +kernel
theorem dX4_on_2 : decode cX4_on 2 = .ok (.invokevirtual 128, 3) := by decide +kernel
theorem dX4_on_5 : decode cX4_on 5 = .ok (.ifCond .eq 22, 3) := by decide +kernel
theorem dX4_on_8 : decode cX4_on 8 = .ok (.iload_n 2, 1) := by decide +kernel
theorem dX4_on_9 : decode cX4_on 9 = .ok (.invokestatic 180, 3) := by decide +kernel
theorem dX4_on_12 : decode cX4_on 12 = .ok (.ifCond .eq 15, 3) := by decide +kernel
theorem dX4_on_15 : decode cX4_on 15 = .ok (.iload_n 3, 1) := by decide +kernel
theorem dX4_on_16 : decode cX4_on 16 = .ok (.i2l, 1) := by decide +kernel
theorem dX4_on_17 : decode cX4_on 17 = .ok (.lconst 0, 1) := by decide +kernel
theorem dX4_on_18 : decode cX4_on 18 = .ok (.ldc2_w 116, 3) := by decide +kernel
theorem dX4_on_21 : decode cX4_on 21 = .ok (.invokestatic 49, 3) := by decide +kernel
theorem dX4_on_24 : decode cX4_on 24 = .ok (.ifCond .ne 10, 3) := by decide +kernel
theorem dX4_on_27 : decode cX4_on 27 = .ok (.aload_n 0, 1) := by decide +kernel
theorem dX4_on_28 : decode cX4_on 28 = .ok (.ldc 44, 2) := by decide +kernel
theorem dX4_on_30 : decode cX4_on 30 = .ok (.invokevirtual 63, 3) := by decide +kernel
theorem dX4_on_33 : decode cX4_on 33 = .ok (.ireturn, 1) := by decide +kernel
theorem dX4_on_34 : decode cX4_on 34 = .ok (.aload_n 0, 1) := by decide +kernel
theorem dX4_on_35 : decode cX4_on 35 = .ok (.iload_n 1, 1) := by decide +kernel
theorem dX4_on_36 : decode cX4_on 36 = .ok (.iload_n 3, 1) := by decide +kernel
theorem dX4_on_37 : decode cX4_on 37 = .ok (.iconst 3, 1) := by decide +kernel
theorem dX4_on_38 : decode cX4_on 38 = .ok (.if_icmp .ne 8, 3) := by decide +kernel
theorem dX4_on_41 : decode cX4_on 41 = .ok (.bipush 8, 2) := by decide +kernel
theorem dX4_on_43 : decode cX4_on 43 = .ok (.goto 6, 3) := by decide +kernel
theorem dX4_on_46 : decode cX4_on 46 = .ok (.iconst 2, 1) := by decide +kernel
theorem dX4_on_47 : decode cX4_on 47 = .ok (.iload_n 3, 1) := by decide +kernel
theorem dX4_on_48 : decode cX4_on 48 = .ok (.iadd, 1) := by decide +kernel
theorem dX4_on_49 : decode cX4_on 49 = .ok (.invokestatic 45, 3) := by decide +kernel
theorem dX4_on_52 : decode cX4_on 52 = .ok (.iload_n 2, 1) := by decide +kernel
theorem dX4_on_53 : decode cX4_on 53 = .ok (.invokevirtual 183, 3) := by decide +kernel
theorem dX4_on_56 : decode cX4_on 56 = .ok (.ireturn, 1) := by decide +kernel
theorem dX4_toldAt_0 : decode cX4_toldAt 0 = .ok (.aload_n 0, 1) := by decide +kernel
theorem dX4_toldAt_1 : decode cX4_toldAt 1 = .ok (.iload_n 1, 1) := by decide +kernel
theorem dX4_toldAt_2 : decode cX4_toldAt 2 = .ok (.invokevirtual 174, 3) := by decide +kernel
theorem dX4_toldAt_5 : decode cX4_toldAt 5 = .ok (.istore_n 2, 1) := by decide +kernel
theorem dX4_toldAt_6 : decode cX4_toldAt 6 = .ok (.iload_n 2, 1) := by decide +kernel
theorem dX4_toldAt_7 : decode cX4_toldAt 7 = .ok (.sipush 200, 3) := by decide +kernel
theorem dX4_toldAt_10 : decode cX4_toldAt 10 = .ok (.if_icmp .le 12, 3) := by decide +kernel
theorem dX4_toldAt_13 : decode cX4_toldAt 13 = .ok (.aload_n 0, 1) := by decide +kernel
theorem dX4_toldAt_14 : decode cX4_toldAt 14 = .ok (.ldc 186, 2) := by decide +kernel
theorem dX4_toldAt_16 : decode cX4_toldAt 16 = .ok (.invokevirtual 63, 3) := by decide +kernel
theorem dX4_toldAt_19 : decode cX4_toldAt 19 = .ok (.goto 4, 3) := by decide +kernel
theorem dX4_toldAt_22 : decode cX4_toldAt 22 = .ok (.iload_n 2, 1) := by decide +kernel
theorem dX4_toldAt_23 : decode cX4_toldAt 23 = .ok (.ireturn, 1) := by decide +kernel
theorem dX4_when_0 : decode cX4_when 0 = .ok (.aload_n 0, 1) := by decide +kernel
theorem dX4_when_1 : decode cX4_when 1 = .ok (.iload_n 1, 1) := by decide +kernel
theorem dX4_when_2 : decode cX4_when 2 = .ok (.invokevirtual 128, 3) := by decide +kernel
theorem dX4_when_5 : decode cX4_when 5 = .ok (.ifCond .ne 10, 3) := by decide +kernel
theorem dX4_when_8 : decode cX4_when 8 = .ok (.aload_n 0, 1) := by decide +kernel
theorem dX4_when_9 : decode cX4_when 9 = .ok (.ldc 44, 2) := by decide +kernel
theorem dX4_when_11 : decode cX4_when 11 = .ok (.invokevirtual 63, 3) := by decide +kernel
theorem dX4_when_14 : decode cX4_when 14 = .ok (.ireturn, 1) := by decide +kernel
theorem dX4_when_15 : decode cX4_when 15 = .ok (.aload_n 0, 1) := by decide +kernel
theorem dX4_when_16 : decode cX4_when 16 = .ok (.invokevirtual 171, 3) := by decide +kernel
theorem dX4_when_19 : decode cX4_when 19 = .ok (.iconst 0, 1) := by decide +kernel
theorem dX4_when_20 : decode cX4_when 20 = .ok (.istore_n 2, 1) := by decide +kernel
theorem dX4_when_21 : decode cX4_when 21 = .ok (.iload_n 2, 1) := by decide +kernel
theorem dX4_when_22 : decode cX4_when 22 = .ok (.sipush 200, 3) := by decide +kernel
theorem dX4_when_25 : decode cX4_when 25 = .ok (.if_icmp .gt 21, 3) := by decide +kernel
theorem dX4_when_28 : decode cX4_when 28 = .ok (.aload_n 0, 1) := by decide +kernel
theorem dX4_when_29 : decode cX4_when 29 = .ok (.iload_n 1, 1) := by decide +kernel
theorem dX4_when_30 : decode cX4_when 30 = .ok (.invokevirtual 82, 3) := by decide +kernel
theorem dX4_when_33 : decode cX4_when 33 = .ok (.ifCond .ne 13, 3) := by decide +kernel
theorem dX4_when_36 : decode cX4_when 36 = .ok (.aload_n 0, 1) := by decide +kernel
theorem dX4_when_37 : decode cX4_when 37 = .ok (.invokevirtual 159, 3) := by decide +kernel
theorem dX4_when_40 : decode cX4_when 40 = .ok (.iinc 2 1, 3) := by decide +kernel
theorem dX4_when_43 : decode cX4_when 43 = .ok (.goto (-22), 3) := by decide +kernel
theorem dX4_when_46 : decode cX4_when 46 = .ok (.aload_n 0, 1) := by decide +kernel
theorem dX4_when_47 : decode cX4_when 47 = .ok (.iload_n 2, 1) := by decide +kernel
theorem dX4_when_48 : decode cX4_when 48 = .ok (.invokevirtual 187, 3) := by decide +kernel
theorem dX4_when_51 : decode cX4_when 51 = .ok (.ireturn, 1) := by decide +kernel
theorem dX4_all_0 : decode cX4_all 0 = .ok (.aload_n 0, 1) := by decide +kernel
theorem dX4_all_1 : decode cX4_all 1 = .ok (.invokevirtual 171, 3) := by decide +kernel
theorem dX4_all_4 : decode cX4_all 4 = .ok (.iconst 0, 1) := by decide +kernel
theorem dX4_all_5 : decode cX4_all 5 = .ok (.istore_n 1, 1) := by decide +kernel
theorem dX4_all_6 : decode cX4_all 6 = .ok (.iload_n 1, 1) := by decide +kernel
theorem dX4_all_7 : decode cX4_all 7 = .ok (.sipush 200, 3) := by decide +kernel
theorem dX4_all_10 : decode cX4_all 10 = .ok (.if_icmp .gt 26, 3) := by decide +kernel
theorem dX4_all_13 : decode cX4_all 13 = .ok (.aload_n 0, 1) := by decide +kernel
theorem dX4_all_14 : decode cX4_all 14 = .ok (.invokevirtual 177, 3) := by decide +kernel
theorem dX4_all_17 : decode cX4_all 17 = .ok (.aload_n 0, 1) := by decide +kernel
theorem dX4_all_18 : decode cX4_all 18 = .ok (.getfield 7, 3) := by decide +kernel
theorem dX4_all_21 : decode cX4_all 21 = .ok (.iconst 1, 1) := by decide +kernel
theorem dX4_all_22 : decode cX4_all 22 = .ok (.iaload, 1) := by decide +kernel
theorem dX4_all_23 : decode cX4_all 23 = .ok (.if_icmp .ge 13, 3) := by decide +kernel
theorem dX4_all_26 : decode cX4_all 26 = .ok (.aload_n 0, 1) := by decide +kernel
theorem dX4_all_27 : decode cX4_all 27 = .ok (.invokevirtual 159, 3) := by decide +kernel
theorem dX4_all_30 : decode cX4_all 30 = .ok (.iinc 1 1, 3) := by decide +kernel
theorem dX4_all_33 : decode cX4_all 33 = .ok (.goto (-27), 3) := by decide +kernel
theorem dX4_all_36 : decode cX4_all 36 = .ok (.aload_n 0, 1) := by decide +kernel
theorem dX4_all_37 : decode cX4_all 37 = .ok (.iload_n 1, 1) := by decide +kernel
theorem dX4_all_38 : decode cX4_all 38 = .ok (.invokevirtual 187, 3) := by decide +kernel
theorem dX4_all_41 : decode cX4_all 41 = .ok (.ireturn, 1) := by decide +kernel
theorem dX4_many_0 : decode cX4_many 0 = .ok (.iload_n 1, 1) := by decide +kernel
theorem dX4_many_1 : decode cX4_many 1 = .ok (.invokestatic 180, 3) := by decide +kernel
theorem dX4_many_4 : decode cX4_many 4 = .ok (.ifCond .eq 11, 3) := by decide +kernel
theorem dX4_many_7 : decode cX4_many 7 = .ok (.aload_n 0, 1) := by decide +kernel
theorem dX4_many_8 : decode cX4_many 8 = .ok (.iload_n 1, 1) := by decide +kernel
theorem dX4_many_9 : decode cX4_many 9 = .ok (.invokevirtual 190, 3) := by decide +kernel
theorem dX4_many_12 : decode cX4_many 12 = .ok (.goto 9, 3) := by decide +kernel
theorem dX4_many_15 : decode cX4_many 15 = .ok (.aload_n 0, 1) := by decide +kernel
theorem dX4_many_16 : decode cX4_many 16 = .ok (.ldc 44, 2) := by decide +kernel
theorem dX4_many_18 : decode cX4_many 18 = .ok (.invokevirtual 63, 3) := by decide +kernel
theorem dX4_many_21 : decode cX4_many 21 = .ok (.ireturn, 1) := by decide +kernel
theorem dX4_isSoon_0 : decode cX4_isSoon 0 = .ok (.iload_n 0, 1) := by decide +kernel
theorem dX4_isSoon_1 : decode cX4_isSoon 1 = .ok (.i2l, 1) := by decide +kernel
theorem dX4_isSoon_2 : decode cX4_isSoon 2 = .ok (.lconst 1, 1) := by decide +kernel
theorem dX4_isSoon_3 : decode cX4_isSoon 3 = .ok (.ldc2_w 193, 3) := by decide +kernel
theorem dX4_isSoon_6 : decode cX4_isSoon 6 = .ok (.invokestatic 49, 3) := by decide +kernel
theorem dX4_isSoon_9 : decode cX4_isSoon 9 = .ok (.ireturn, 1) := by decide +kernel
theorem dX4_mostBy_0 : decode cX4_mostBy 0 = .ok (.aload_n 0, 1) := by decide +kernel
theorem dX4_mostBy_1 : decode cX4_mostBy 1 = .ok (.getfield 7, 3) := by decide +kernel
theorem dX4_mostBy_4 : decode cX4_mostBy 4 = .ok (.iload_n 1, 1) := by decide +kernel
theorem dX4_mostBy_5 : decode cX4_mostBy 5 = .ok (.iaload, 1) := by decide +kernel
theorem dX4_mostBy_6 : decode cX4_mostBy 6 = .ok (.istore 4, 2) := by decide +kernel
theorem dX4_mostBy_8 : decode cX4_mostBy 8 = .ok (.iconst 0, 1) := by decide +kernel
theorem dX4_mostBy_9 : decode cX4_mostBy 9 = .ok (.istore 5, 2) := by decide +kernel
theorem dX4_mostBy_11 : decode cX4_mostBy 11 = .ok (.iconst (-1), 1) := by decide +kernel
theorem dX4_mostBy_12 : decode cX4_mostBy 12 = .ok (.istore 6, 2) := by decide +kernel
theorem dX4_mostBy_14 : decode cX4_mostBy 14 = .ok (.iconst 0, 1) := by decide +kernel
theorem dX4_mostBy_15 : decode cX4_mostBy 15 = .ok (.istore 7, 2) := by decide +kernel
theorem dX4_mostBy_17 : decode cX4_mostBy 17 = .ok (.iload 7, 2) := by decide +kernel
theorem dX4_mostBy_19 : decode cX4_mostBy 19 = .ok (.iload_n 2, 1) := by decide +kernel
theorem dX4_mostBy_20 : decode cX4_mostBy 20 = .ok (.if_icmp .gt 56, 3) := by decide +kernel
theorem dX4_mostBy_23 : decode cX4_mostBy 23 = .ok (.aload_n 0, 1) := by decide +kernel
theorem dX4_mostBy_24 : decode cX4_mostBy 24 = .ok (.getfield 7, 3) := by decide +kernel
theorem dX4_mostBy_27 : decode cX4_mostBy 27 = .ok (.iload_n 1, 1) := by decide +kernel
theorem dX4_mostBy_28 : decode cX4_mostBy 28 = .ok (.iload 7, 2) := by decide +kernel
theorem dX4_mostBy_30 : decode cX4_mostBy 30 = .ok (.iastore, 1) := by decide +kernel
theorem dX4_mostBy_31 : decode cX4_mostBy 31 = .ok (.aload_n 0, 1) := by decide +kernel
theorem dX4_mostBy_32 : decode cX4_mostBy 32 = .ok (.iload_n 3, 1) := by decide +kernel
theorem dX4_mostBy_33 : decode cX4_mostBy 33 = .ok (.invokevirtual 190, 3) := by decide +kernel
theorem dX4_mostBy_36 : decode cX4_mostBy 36 = .ok (.istore 8, 2) := by decide +kernel
theorem dX4_mostBy_38 : decode cX4_mostBy 38 = .ok (.iload 8, 2) := by decide +kernel
theorem dX4_mostBy_40 : decode cX4_mostBy 40 = .ok (.iload 6, 2) := by decide +kernel
theorem dX4_mostBy_42 : decode cX4_mostBy 42 = .ok (.if_icmp .le 8, 3) := by decide +kernel
theorem dX4_mostBy_45 : decode cX4_mostBy 45 = .ok (.iload 7, 2) := by decide +kernel
theorem dX4_mostBy_47 : decode cX4_mostBy 47 = .ok (.goto 5, 3) := by decide +kernel
theorem dX4_mostBy_50 : decode cX4_mostBy 50 = .ok (.iload 5, 2) := by decide +kernel
theorem dX4_mostBy_52 : decode cX4_mostBy 52 = .ok (.istore 5, 2) := by decide +kernel
theorem dX4_mostBy_54 : decode cX4_mostBy 54 = .ok (.iload 8, 2) := by decide +kernel
theorem dX4_mostBy_56 : decode cX4_mostBy 56 = .ok (.iload 6, 2) := by decide +kernel
theorem dX4_mostBy_58 : decode cX4_mostBy 58 = .ok (.if_icmp .le 8, 3) := by decide +kernel
theorem dX4_mostBy_61 : decode cX4_mostBy 61 = .ok (.iload 8, 2) := by decide +kernel
theorem dX4_mostBy_63 : decode cX4_mostBy 63 = .ok (.goto 5, 3) := by decide +kernel
theorem dX4_mostBy_66 : decode cX4_mostBy 66 = .ok (.iload 6, 2) := by decide +kernel
theorem dX4_mostBy_68 : decode cX4_mostBy 68 = .ok (.istore 6, 2) := by decide +kernel
theorem dX4_mostBy_70 : decode cX4_mostBy 70 = .ok (.iinc 7 1, 3) := by decide +kernel
theorem dX4_mostBy_73 : decode cX4_mostBy 73 = .ok (.goto (-56), 3) := by decide +kernel
theorem dX4_mostBy_76 : decode cX4_mostBy 76 = .ok (.aload_n 0, 1) := by decide +kernel
theorem dX4_mostBy_77 : decode cX4_mostBy 77 = .ok (.getfield 7, 3) := by decide +kernel
theorem dX4_mostBy_80 : decode cX4_mostBy 80 = .ok (.iload_n 1, 1) := by decide +kernel
theorem dX4_mostBy_81 : decode cX4_mostBy 81 = .ok (.iload 4, 2) := by decide +kernel
theorem dX4_mostBy_83 : decode cX4_mostBy 83 = .ok (.iastore, 1) := by decide +kernel
theorem dX4_mostBy_84 : decode cX4_mostBy 84 = .ok (.iload 5, 2) := by decide +kernel
theorem dX4_mostBy_86 : decode cX4_mostBy 86 = .ok (.ireturn, 1) := by decide +kernel
theorem dX4_porter_0 : decode cX4_porter 0 = .ok (.iload_n 1, 1) := by decide +kernel
theorem dX4_porter_1 : decode cX4_porter 1 = .ok (.invokestatic 195, 3) := by decide +kernel
theorem dX4_porter_4 : decode cX4_porter 4 = .ok (.ifCond .ne 10, 3) := by decide +kernel
theorem dX4_porter_7 : decode cX4_porter 7 = .ok (.aload_n 0, 1) := by decide +kernel
theorem dX4_porter_8 : decode cX4_porter 8 = .ok (.ldc 44, 2) := by decide +kernel
theorem dX4_porter_10 : decode cX4_porter 10 = .ok (.invokevirtual 63, 3) := by decide +kernel
theorem dX4_porter_13 : decode cX4_porter 13 = .ok (.ireturn, 1) := by decide +kernel
theorem dX4_porter_14 : decode cX4_porter 14 = .ok (.iconst (-1), 1) := by decide +kernel
theorem dX4_porter_15 : decode cX4_porter 15 = .ok (.istore_n 2, 1) := by decide +kernel
theorem dX4_porter_16 : decode cX4_porter 16 = .ok (.iconst (-1), 1) := by decide +kernel
theorem dX4_porter_17 : decode cX4_porter 17 = .ok (.istore_n 3, 1) := by decide +kernel
theorem dX4_porter_18 : decode cX4_porter 18 = .ok (.iconst 0, 1) := by decide +kernel
theorem dX4_porter_19 : decode cX4_porter 19 = .ok (.istore 4, 2) := by decide +kernel
theorem dX4_porter_21 : decode cX4_porter 21 = .ok (.iload 4, 2) := by decide +kernel
theorem dX4_porter_23 : decode cX4_porter 23 = .ok (.aload_n 0, 1) := by decide +kernel
theorem dX4_porter_24 : decode cX4_porter 24 = .ok (.getfield 7, 3) := by decide +kernel
theorem dX4_porter_27 : decode cX4_porter 27 = .ok (.iconst 1, 1) := by decide +kernel
theorem dX4_porter_28 : decode cX4_porter 28 = .ok (.iaload, 1) := by decide +kernel
theorem dX4_porter_29 : decode cX4_porter 29 = .ok (.if_icmp .ge 79, 3) := by decide +kernel
theorem dX4_porter_32 : decode cX4_porter 32 = .ok (.aload_n 0, 1) := by decide +kernel
theorem dX4_porter_33 : decode cX4_porter 33 = .ok (.iload 4, 2) := by decide +kernel
theorem dX4_porter_35 : decode cX4_porter 35 = .ok (.bipush 7, 2) := by decide +kernel
theorem dX4_porter_37 : decode cX4_porter 37 = .ok (.invokevirtual 55, 3) := by decide +kernel
theorem dX4_porter_40 : decode cX4_porter 40 = .ok (.ifCond .ne 62, 3) := by decide +kernel
theorem dX4_porter_43 : decode cX4_porter 43 = .ok (.aload_n 0, 1) := by decide +kernel
theorem dX4_porter_44 : decode cX4_porter 44 = .ok (.getfield 7, 3) := by decide +kernel
theorem dX4_porter_47 : decode cX4_porter 47 = .ok (.iload 4, 2) := by decide +kernel
theorem dX4_porter_49 : decode cX4_porter 49 = .ok (.bipush 7, 2) := by decide +kernel
theorem dX4_porter_51 : decode cX4_porter 51 = .ok (.invokestatic 45, 3) := by decide +kernel
theorem dX4_porter_54 : decode cX4_porter 54 = .ok (.iconst 1, 1) := by decide +kernel
theorem dX4_porter_55 : decode cX4_porter 55 = .ok (.iastore, 1) := by decide +kernel
theorem dX4_porter_56 : decode cX4_porter 56 = .ok (.aload_n 0, 1) := by decide +kernel
theorem dX4_porter_57 : decode cX4_porter 57 = .ok (.iload_n 1, 1) := by decide +kernel
theorem dX4_porter_58 : decode cX4_porter 58 = .ok (.invokevirtual 190, 3) := by decide +kernel
theorem dX4_porter_61 : decode cX4_porter 61 = .ok (.istore 5, 2) := by decide +kernel
theorem dX4_porter_63 : decode cX4_porter 63 = .ok (.aload_n 0, 1) := by decide +kernel
theorem dX4_porter_64 : decode cX4_porter 64 = .ok (.getfield 7, 3) := by decide +kernel
theorem dX4_porter_67 : decode cX4_porter 67 = .ok (.iload 4, 2) := by decide +kernel
theorem dX4_porter_69 : decode cX4_porter 69 = .ok (.bipush 7, 2) := by decide +kernel
theorem dX4_porter_71 : decode cX4_porter 71 = .ok (.invokestatic 45, 3) := by decide +kernel
theorem dX4_porter_74 : decode cX4_porter 74 = .ok (.iconst 0, 1) := by decide +kernel
theorem dX4_porter_75 : decode cX4_porter 75 = .ok (.iastore, 1) := by decide +kernel
theorem dX4_porter_76 : decode cX4_porter 76 = .ok (.iload 5, 2) := by decide +kernel
theorem dX4_porter_78 : decode cX4_porter 78 = .ok (.iload_n 3, 1) := by decide +kernel
theorem dX4_porter_79 : decode cX4_porter 79 = .ok (.if_icmp .le 8, 3) := by decide +kernel
theorem dX4_porter_82 : decode cX4_porter 82 = .ok (.iload 4, 2) := by decide +kernel
theorem dX4_porter_84 : decode cX4_porter 84 = .ok (.goto 4, 3) := by decide +kernel
theorem dX4_porter_87 : decode cX4_porter 87 = .ok (.iload_n 2, 1) := by decide +kernel
theorem dX4_porter_88 : decode cX4_porter 88 = .ok (.istore_n 2, 1) := by decide +kernel
theorem dX4_porter_89 : decode cX4_porter 89 = .ok (.iload 5, 2) := by decide +kernel
theorem dX4_porter_91 : decode cX4_porter 91 = .ok (.iload_n 3, 1) := by decide +kernel
theorem dX4_porter_92 : decode cX4_porter 92 = .ok (.if_icmp .le 8, 3) := by decide +kernel
theorem dX4_porter_95 : decode cX4_porter 95 = .ok (.iload 5, 2) := by decide +kernel
theorem dX4_porter_97 : decode cX4_porter 97 = .ok (.goto 4, 3) := by decide +kernel
theorem dX4_porter_100 : decode cX4_porter 100 = .ok (.iload_n 3, 1) := by decide +kernel
theorem dX4_porter_101 : decode cX4_porter 101 = .ok (.istore_n 3, 1) := by decide +kernel
theorem dX4_porter_102 : decode cX4_porter 102 = .ok (.iinc 4 1, 3) := by decide +kernel
theorem dX4_porter_105 : decode cX4_porter 105 = .ok (.goto (-84), 3) := by decide +kernel
theorem dX4_porter_108 : decode cX4_porter 108 = .ok (.iload_n 2, 1) := by decide +kernel
theorem dX4_porter_109 : decode cX4_porter 109 = .ok (.ifCond .ge 12, 3) := by decide +kernel
theorem dX4_porter_112 : decode cX4_porter 112 = .ok (.aload_n 0, 1) := by decide +kernel
theorem dX4_porter_113 : decode cX4_porter 113 = .ok (.ldc 186, 2) := by decide +kernel
theorem dX4_porter_115 : decode cX4_porter 115 = .ok (.invokevirtual 63, 3) := by decide +kernel
theorem dX4_porter_118 : decode cX4_porter 118 = .ok (.goto 4, 3) := by decide +kernel
theorem dX4_porter_121 : decode cX4_porter 121 = .ok (.iload_n 2, 1) := by decide +kernel
theorem dX4_porter_122 : decode cX4_porter 122 = .ok (.ireturn, 1) := by decide +kernel
theorem dX4_by_0 : decode cX4_by 0 = .ok (.iload_n 1, 1) := by decide +kernel
theorem dX4_by_1 : decode cX4_by 1 = .ok (.invokestatic 195, 3) := by decide +kernel
theorem dX4_by_4 : decode cX4_by 4 = .ok (.ifCond .eq 15, 3) := by decide +kernel
theorem dX4_by_7 : decode cX4_by 7 = .ok (.iload_n 2, 1) := by decide +kernel
theorem dX4_by_8 : decode cX4_by 8 = .ok (.i2l, 1) := by decide +kernel
theorem dX4_by_9 : decode cX4_by 9 = .ok (.lconst 0, 1) := by decide +kernel
theorem dX4_by_10 : decode cX4_by 10 = .ok (.ldc2_w 58, 3) := by decide +kernel
theorem dX4_by_13 : decode cX4_by 13 = .ok (.invokestatic 49, 3) := by decide +kernel
theorem dX4_by_16 : decode cX4_by 16 = .ok (.ifCond .ne 10, 3) := by decide +kernel
theorem dX4_by_19 : decode cX4_by 19 = .ok (.aload_n 0, 1) := by decide +kernel
theorem dX4_by_20 : decode cX4_by 20 = .ok (.ldc 44, 2) := by decide +kernel
theorem dX4_by_22 : decode cX4_by 22 = .ok (.invokevirtual 63, 3) := by decide +kernel
theorem dX4_by_25 : decode cX4_by 25 = .ok (.ireturn, 1) := by decide +kernel
theorem dX4_by_26 : decode cX4_by 26 = .ok (.aload_n 0, 1) := by decide +kernel
theorem dX4_by_27 : decode cX4_by 27 = .ok (.getfield 7, 3) := by decide +kernel
theorem dX4_by_30 : decode cX4_by 30 = .ok (.iconst 2, 1) := by decide +kernel
theorem dX4_by_31 : decode cX4_by 31 = .ok (.iaload, 1) := by decide +kernel
theorem dX4_by_32 : decode cX4_by 32 = .ok (.istore_n 3, 1) := by decide +kernel
theorem dX4_by_33 : decode cX4_by 33 = .ok (.iconst (-1), 1) := by decide +kernel
theorem dX4_by_34 : decode cX4_by 34 = .ok (.istore 4, 2) := by decide +kernel
theorem dX4_by_36 : decode cX4_by 36 = .ok (.iconst 0, 1) := by decide +kernel
theorem dX4_by_37 : decode cX4_by 37 = .ok (.istore 5, 2) := by decide +kernel
theorem dX4_by_39 : decode cX4_by 39 = .ok (.iload 5, 2) := by decide +kernel
theorem dX4_by_41 : decode cX4_by 41 = .ok (.bipush 8, 2) := by decide +kernel
theorem dX4_by_43 : decode cX4_by 43 = .ok (.if_icmp .gt 39, 3) := by decide +kernel
theorem dX4_by_46 : decode cX4_by 46 = .ok (.iload 4, 2) := by decide +kernel
theorem dX4_by_48 : decode cX4_by 48 = .ok (.ifCond .ge 34, 3) := by decide +kernel
theorem dX4_by_51 : decode cX4_by 51 = .ok (.aload_n 0, 1) := by decide +kernel
theorem dX4_by_52 : decode cX4_by 52 = .ok (.getfield 7, 3) := by decide +kernel
theorem dX4_by_55 : decode cX4_by 55 = .ok (.iconst 2, 1) := by decide +kernel
theorem dX4_by_56 : decode cX4_by 56 = .ok (.iload 5, 2) := by decide +kernel
theorem dX4_by_58 : decode cX4_by 58 = .ok (.iastore, 1) := by decide +kernel
theorem dX4_by_59 : decode cX4_by 59 = .ok (.aload_n 0, 1) := by decide +kernel
theorem dX4_by_60 : decode cX4_by 60 = .ok (.iload_n 1, 1) := by decide +kernel
theorem dX4_by_61 : decode cX4_by 61 = .ok (.invokevirtual 190, 3) := by decide +kernel
theorem dX4_by_64 : decode cX4_by 64 = .ok (.iload_n 2, 1) := by decide +kernel
theorem dX4_by_65 : decode cX4_by 65 = .ok (.if_icmp .lt 8, 3) := by decide +kernel
theorem dX4_by_68 : decode cX4_by 68 = .ok (.iload 5, 2) := by decide +kernel
theorem dX4_by_70 : decode cX4_by 70 = .ok (.goto 4, 3) := by decide +kernel
theorem dX4_by_73 : decode cX4_by 73 = .ok (.iconst (-1), 1) := by decide +kernel
theorem dX4_by_74 : decode cX4_by 74 = .ok (.istore 4, 2) := by decide +kernel
theorem dX4_by_76 : decode cX4_by 76 = .ok (.iinc 5 1, 3) := by decide +kernel
theorem dX4_by_79 : decode cX4_by 79 = .ok (.goto (-40), 3) := by decide +kernel
theorem dX4_by_82 : decode cX4_by 82 = .ok (.aload_n 0, 1) := by decide +kernel
theorem dX4_by_83 : decode cX4_by 83 = .ok (.getfield 7, 3) := by decide +kernel
theorem dX4_by_86 : decode cX4_by 86 = .ok (.iconst 2, 1) := by decide +kernel
theorem dX4_by_87 : decode cX4_by 87 = .ok (.iload_n 3, 1) := by decide +kernel
theorem dX4_by_88 : decode cX4_by 88 = .ok (.iastore, 1) := by decide +kernel
theorem dX4_by_89 : decode cX4_by 89 = .ok (.iload 4, 2) := by decide +kernel
theorem dX4_by_91 : decode cX4_by 91 = .ok (.ifCond .ge 12, 3) := by decide +kernel
theorem dX4_by_94 : decode cX4_by 94 = .ok (.aload_n 0, 1) := by decide +kernel
theorem dX4_by_95 : decode cX4_by 95 = .ok (.ldc 186, 2) := by decide +kernel
theorem dX4_by_97 : decode cX4_by 97 = .ok (.invokevirtual 63, 3) := by decide +kernel
theorem dX4_by_100 : decode cX4_by 100 = .ok (.goto 5, 3) := by decide +kernel
theorem dX4_by_103 : decode cX4_by 103 = .ok (.iload 4, 2) := by decide +kernel
theorem dX4_by_105 : decode cX4_by 105 = .ok (.ireturn, 1) := by decide +kernel
theorem dX4_kind_0 : decode cX4_kind 0 = .ok (.aload_n 0, 1) := by decide +kernel
theorem dX4_kind_1 : decode cX4_kind 1 = .ok (.iload_n 1, 1) := by decide +kernel
theorem dX4_kind_2 : decode cX4_kind 2 = .ok (.invokevirtual 128, 3) := by decide +kernel
theorem dX4_kind_5 : decode cX4_kind 5 = .ok (.ifCond .eq 15, 3) := by decide +kernel
theorem dX4_kind_8 : decode cX4_kind 8 = .ok (.iload_n 2, 1) := by decide +kernel
theorem dX4_kind_9 : decode cX4_kind 9 = .ok (.i2l, 1) := by decide +kernel
theorem dX4_kind_10 : decode cX4_kind 10 = .ok (.lconst 1, 1) := by decide +kernel
theorem dX4_kind_11 : decode cX4_kind 11 = .ok (.ldc2_w 198, 3) := by decide +kernel
theorem dX4_kind_14 : decode cX4_kind 14 = .ok (.invokestatic 49, 3) := by decide +kernel
theorem dX4_kind_17 : decode cX4_kind 17 = .ok (.ifCond .ne 10, 3) := by decide +kernel
theorem dX4_kind_20 : decode cX4_kind 20 = .ok (.aload_n 0, 1) := by decide +kernel
theorem dX4_kind_21 : decode cX4_kind 21 = .ok (.ldc 44, 2) := by decide +kernel
theorem dX4_kind_23 : decode cX4_kind 23 = .ok (.invokevirtual 63, 3) := by decide +kernel
theorem dX4_kind_26 : decode cX4_kind 26 = .ok (.ireturn, 1) := by decide +kernel
theorem dX4_kind_27 : decode cX4_kind 27 = .ok (.aload_n 0, 1) := by decide +kernel
theorem dX4_kind_28 : decode cX4_kind 28 = .ok (.iload_n 1, 1) := by decide +kernel
theorem dX4_kind_29 : decode cX4_kind 29 = .ok (.iconst 0, 1) := by decide +kernel
theorem dX4_kind_30 : decode cX4_kind 30 = .ok (.invokevirtual 55, 3) := by decide +kernel
theorem dX4_kind_33 : decode cX4_kind 33 = .ok (.istore_n 3, 1) := by decide +kernel
theorem dX4_kind_34 : decode cX4_kind 34 = .ok (.iconst 0, 1) := by decide +kernel
theorem dX4_kind_35 : decode cX4_kind 35 = .ok (.istore 4, 2) := by decide +kernel
theorem dX4_kind_37 : decode cX4_kind 37 = .ok (.iconst (-1), 1) := by decide +kernel
theorem dX4_kind_38 : decode cX4_kind 38 = .ok (.istore 5, 2) := by decide +kernel
theorem dX4_kind_40 : decode cX4_kind 40 = .ok (.iconst 0, 1) := by decide +kernel
theorem dX4_kind_41 : decode cX4_kind 41 = .ok (.istore 6, 2) := by decide +kernel
theorem dX4_kind_43 : decode cX4_kind 43 = .ok (.iload 6, 2) := by decide +kernel
theorem dX4_kind_45 : decode cX4_kind 45 = .ok (.iconst 5, 1) := by decide +kernel
theorem dX4_kind_46 : decode cX4_kind 46 = .ok (.if_icmp .gt 66, 3) := by decide +kernel
theorem dX4_kind_49 : decode cX4_kind 49 = .ok (.aload_n 0, 1) := by decide +kernel
theorem dX4_kind_50 : decode cX4_kind 50 = .ok (.getfield 7, 3) := by decide +kernel
theorem dX4_kind_53 : decode cX4_kind 53 = .ok (.iload_n 1, 1) := by decide +kernel
theorem dX4_kind_54 : decode cX4_kind 54 = .ok (.iconst 0, 1) := by decide +kernel
theorem dX4_kind_55 : decode cX4_kind 55 = .ok (.invokestatic 45, 3) := by decide +kernel
theorem dX4_kind_58 : decode cX4_kind 58 = .ok (.iload 6, 2) := by decide +kernel
theorem dX4_kind_60 : decode cX4_kind 60 = .ok (.iastore, 1) := by decide +kernel
theorem dX4_kind_61 : decode cX4_kind 61 = .ok (.aload_n 0, 1) := by decide +kernel
theorem dX4_kind_62 : decode cX4_kind 62 = .ok (.iload_n 1, 1) := by decide +kernel
theorem dX4_kind_63 : decode cX4_kind 63 = .ok (.bipush 8, 2) := by decide +kernel
theorem dX4_kind_65 : decode cX4_kind 65 = .ok (.invokestatic 45, 3) := by decide +kernel
theorem dX4_kind_68 : decode cX4_kind 68 = .ok (.iload_n 2, 1) := by decide +kernel
theorem dX4_kind_69 : decode cX4_kind 69 = .ok (.invokevirtual 183, 3) := by decide +kernel
theorem dX4_kind_72 : decode cX4_kind 72 = .ok (.istore 7, 2) := by decide +kernel
theorem dX4_kind_74 : decode cX4_kind 74 = .ok (.iload 7, 2) := by decide +kernel
theorem dX4_kind_76 : decode cX4_kind 76 = .ok (.iload 5, 2) := by decide +kernel
theorem dX4_kind_78 : decode cX4_kind 78 = .ok (.if_icmp .le 8, 3) := by decide +kernel
theorem dX4_kind_81 : decode cX4_kind 81 = .ok (.iload 6, 2) := by decide +kernel
theorem dX4_kind_83 : decode cX4_kind 83 = .ok (.goto 5, 3) := by decide +kernel
theorem dX4_kind_86 : decode cX4_kind 86 = .ok (.iload 4, 2) := by decide +kernel
theorem dX4_kind_88 : decode cX4_kind 88 = .ok (.istore 4, 2) := by decide +kernel
theorem dX4_kind_90 : decode cX4_kind 90 = .ok (.iload 7, 2) := by decide +kernel
theorem dX4_kind_92 : decode cX4_kind 92 = .ok (.iload 5, 2) := by decide +kernel
theorem dX4_kind_94 : decode cX4_kind 94 = .ok (.if_icmp .le 8, 3) := by decide +kernel
theorem dX4_kind_97 : decode cX4_kind 97 = .ok (.iload 7, 2) := by decide +kernel
theorem dX4_kind_99 : decode cX4_kind 99 = .ok (.goto 5, 3) := by decide +kernel
theorem dX4_kind_102 : decode cX4_kind 102 = .ok (.iload 5, 2) := by decide +kernel
theorem dX4_kind_104 : decode cX4_kind 104 = .ok (.istore 5, 2) := by decide +kernel
theorem dX4_kind_106 : decode cX4_kind 106 = .ok (.iinc 6 1, 3) := by decide +kernel
theorem dX4_kind_109 : decode cX4_kind 109 = .ok (.goto (-66), 3) := by decide +kernel
theorem dX4_kind_112 : decode cX4_kind 112 = .ok (.aload_n 0, 1) := by decide +kernel
theorem dX4_kind_113 : decode cX4_kind 113 = .ok (.getfield 7, 3) := by decide +kernel
theorem dX4_kind_116 : decode cX4_kind 116 = .ok (.iload_n 1, 1) := by decide +kernel
theorem dX4_kind_117 : decode cX4_kind 117 = .ok (.iconst 0, 1) := by decide +kernel
theorem dX4_kind_118 : decode cX4_kind 118 = .ok (.invokestatic 45, 3) := by decide +kernel
theorem dX4_kind_121 : decode cX4_kind 121 = .ok (.iload_n 3, 1) := by decide +kernel
theorem dX4_kind_122 : decode cX4_kind 122 = .ok (.iastore, 1) := by decide +kernel
theorem dX4_kind_123 : decode cX4_kind 123 = .ok (.iload 4, 2) := by decide +kernel
theorem dX4_kind_125 : decode cX4_kind 125 = .ok (.ireturn, 1) := by decide +kernel
theorem dX4_place_0 : decode cX4_place 0 = .ok (.aload_n 0, 1) := by decide +kernel
theorem dX4_place_1 : decode cX4_place 1 = .ok (.iload_n 1, 1) := by decide +kernel
theorem dX4_place_2 : decode cX4_place 2 = .ok (.invokevirtual 128, 3) := by decide +kernel
theorem dX4_place_5 : decode cX4_place 5 = .ok (.ifCond .eq 25, 3) := by decide +kernel
theorem dX4_place_8 : decode cX4_place 8 = .ok (.iload_n 2, 1) := by decide +kernel
theorem dX4_place_9 : decode cX4_place 9 = .ok (.invokestatic 195, 3) := by decide +kernel
theorem dX4_place_12 : decode cX4_place 12 = .ok (.ifCond .eq 18, 3) := by decide +kernel
theorem dX4_place_15 : decode cX4_place 15 = .ok (.aload_n 0, 1) := by decide +kernel
theorem dX4_place_16 : decode cX4_place 16 = .ok (.iload_n 1, 1) := by decide +kernel
theorem dX4_place_17 : decode cX4_place 17 = .ok (.iconst 2, 1) := by decide +kernel
theorem dX4_place_18 : decode cX4_place 18 = .ok (.invokestatic 45, 3) := by decide +kernel
theorem dX4_place_21 : decode cX4_place 21 = .ok (.bipush 19, 2) := by decide +kernel
theorem dX4_place_23 : decode cX4_place 23 = .ok (.iload_n 2, 1) := by decide +kernel
theorem dX4_place_24 : decode cX4_place 24 = .ok (.invokevirtual 200, 3) := by decide +kernel
theorem dX4_place_27 : decode cX4_place 27 = .ok (.goto 9, 3) := by decide +kernel
theorem dX4_place_30 : decode cX4_place 30 = .ok (.aload_n 0, 1) := by decide +kernel
theorem dX4_place_31 : decode cX4_place 31 = .ok (.ldc 44, 2) := by decide +kernel
theorem dX4_place_33 : decode cX4_place 33 = .ok (.invokevirtual 63, 3) := by decide +kernel
theorem dX4_place_36 : decode cX4_place 36 = .ok (.ireturn, 1) := by decide +kernel
theorem dX4_isClash_0 : decode cX4_isClash 0 = .ok (.iconst 0, 1) := by decide +kernel
theorem dX4_isClash_1 : decode cX4_isClash 1 = .ok (.istore 4, 2) := by decide +kernel
theorem dX4_isClash_3 : decode cX4_isClash 3 = .ok (.iconst 0, 1) := by decide +kernel
theorem dX4_isClash_4 : decode cX4_isClash 4 = .ok (.istore 5, 2) := by decide +kernel
theorem dX4_isClash_6 : decode cX4_isClash 6 = .ok (.iconst 0, 1) := by decide +kernel
theorem dX4_isClash_7 : decode cX4_isClash 7 = .ok (.istore 6, 2) := by decide +kernel
theorem dX4_isClash_9 : decode cX4_isClash 9 = .ok (.iconst 0, 1) := by decide +kernel
theorem dX4_isClash_10 : decode cX4_isClash 10 = .ok (.istore 7, 2) := by decide +kernel
theorem dX4_isClash_12 : decode cX4_isClash 12 = .ok (.iload 7, 2) := by decide +kernel
theorem dX4_isClash_14 : decode cX4_isClash 14 = .ok (.iload_n 3, 1) := by decide +kernel
theorem dX4_isClash_15 : decode cX4_isClash 15 = .ok (.if_icmp .gt 87, 3) := by decide +kernel
theorem dX4_isClash_18 : decode cX4_isClash 18 = .ok (.aload_n 0, 1) := by decide +kernel
theorem dX4_isClash_19 : decode cX4_isClash 19 = .ok (.getfield 25, 3) := by decide +kernel
theorem dX4_isClash_22 : decode cX4_isClash 22 = .ok (.iload 7, 2) := by decide +kernel
theorem dX4_isClash_24 : decode cX4_isClash 24 = .ok (.iaload, 1) := by decide +kernel
theorem dX4_isClash_25 : decode cX4_isClash 25 = .ok (.iload_n 1, 1) := by decide +kernel
theorem dX4_isClash_26 : decode cX4_isClash 26 = .ok (.ishr, 1) := by decide +kernel
theorem dX4_isClash_27 : decode cX4_isClash 27 = .ok (.iconst 1, 1) := by decide +kernel
theorem dX4_isClash_28 : decode cX4_isClash 28 = .ok (.iand, 1) := by decide +kernel
theorem dX4_isClash_29 : decode cX4_isClash 29 = .ok (.iconst 1, 1) := by decide +kernel
theorem dX4_isClash_30 : decode cX4_isClash 30 = .ok (.if_icmp .ne 7, 3) := by decide +kernel
theorem dX4_isClash_33 : decode cX4_isClash 33 = .ok (.iconst 1, 1) := by decide +kernel
theorem dX4_isClash_34 : decode cX4_isClash 34 = .ok (.goto 4, 3) := by decide +kernel
theorem dX4_isClash_37 : decode cX4_isClash 37 = .ok (.iconst 0, 1) := by decide +kernel
theorem dX4_isClash_38 : decode cX4_isClash 38 = .ok (.istore 8, 2) := by decide +kernel
theorem dX4_isClash_40 : decode cX4_isClash 40 = .ok (.aload_n 0, 1) := by decide +kernel
theorem dX4_isClash_41 : decode cX4_isClash 41 = .ok (.getfield 25, 3) := by decide +kernel
theorem dX4_isClash_44 : decode cX4_isClash 44 = .ok (.iload 7, 2) := by decide +kernel
theorem dX4_isClash_46 : decode cX4_isClash 46 = .ok (.iaload, 1) := by decide +kernel
theorem dX4_isClash_47 : decode cX4_isClash 47 = .ok (.iload_n 2, 1) := by decide +kernel
theorem dX4_isClash_48 : decode cX4_isClash 48 = .ok (.ishr, 1) := by decide +kernel
theorem dX4_isClash_49 : decode cX4_isClash 49 = .ok (.iconst 1, 1) := by decide +kernel
theorem dX4_isClash_50 : decode cX4_isClash 50 = .ok (.iand, 1) := by decide +kernel
theorem dX4_isClash_51 : decode cX4_isClash 51 = .ok (.iconst 1, 1) := by decide +kernel
theorem dX4_isClash_52 : decode cX4_isClash 52 = .ok (.if_icmp .ne 7, 3) := by decide +kernel
theorem dX4_isClash_55 : decode cX4_isClash 55 = .ok (.iconst 1, 1) := by decide +kernel
theorem dX4_isClash_56 : decode cX4_isClash 56 = .ok (.goto 4, 3) := by decide +kernel
theorem dX4_isClash_59 : decode cX4_isClash 59 = .ok (.iconst 0, 1) := by decide +kernel
theorem dX4_isClash_60 : decode cX4_isClash 60 = .ok (.istore 9, 2) := by decide +kernel
theorem dX4_isClash_62 : decode cX4_isClash 62 = .ok (.iload 4, 2) := by decide +kernel
theorem dX4_isClash_64 : decode cX4_isClash 64 = .ok (.iload 8, 2) := by decide +kernel
theorem dX4_isClash_66 : decode cX4_isClash 66 = .ok (.ior, 1) := by decide +kernel
theorem dX4_isClash_67 : decode cX4_isClash 67 = .ok (.istore 4, 2) := by decide +kernel
theorem dX4_isClash_69 : decode cX4_isClash 69 = .ok (.iload 5, 2) := by decide +kernel
theorem dX4_isClash_71 : decode cX4_isClash 71 = .ok (.iload 9, 2) := by decide +kernel
theorem dX4_isClash_73 : decode cX4_isClash 73 = .ok (.ior, 1) := by decide +kernel
theorem dX4_isClash_74 : decode cX4_isClash 74 = .ok (.istore 5, 2) := by decide +kernel
theorem dX4_isClash_76 : decode cX4_isClash 76 = .ok (.iload 6, 2) := by decide +kernel
theorem dX4_isClash_78 : decode cX4_isClash 78 = .ok (.iload 8, 2) := by decide +kernel
theorem dX4_isClash_80 : decode cX4_isClash 80 = .ok (.ifCond .eq 12, 3) := by decide +kernel
theorem dX4_isClash_83 : decode cX4_isClash 83 = .ok (.iload 9, 2) := by decide +kernel
theorem dX4_isClash_85 : decode cX4_isClash 85 = .ok (.ifCond .eq 7, 3) := by decide +kernel
theorem dX4_isClash_88 : decode cX4_isClash 88 = .ok (.iconst 1, 1) := by decide +kernel
theorem dX4_isClash_89 : decode cX4_isClash 89 = .ok (.goto 4, 3) := by decide +kernel
theorem dX4_isClash_92 : decode cX4_isClash 92 = .ok (.iconst 0, 1) := by decide +kernel
theorem dX4_isClash_93 : decode cX4_isClash 93 = .ok (.ior, 1) := by decide +kernel
theorem dX4_isClash_94 : decode cX4_isClash 94 = .ok (.istore 6, 2) := by decide +kernel
theorem dX4_isClash_96 : decode cX4_isClash 96 = .ok (.iinc 7 1, 3) := by decide +kernel
theorem dX4_isClash_99 : decode cX4_isClash 99 = .ok (.goto (-87), 3) := by decide +kernel
theorem dX4_isClash_102 : decode cX4_isClash 102 = .ok (.iload 4, 2) := by decide +kernel
theorem dX4_isClash_104 : decode cX4_isClash 104 = .ok (.ifCond .eq 17, 3) := by decide +kernel
theorem dX4_isClash_107 : decode cX4_isClash 107 = .ok (.iload 5, 2) := by decide +kernel
theorem dX4_isClash_109 : decode cX4_isClash 109 = .ok (.ifCond .eq 12, 3) := by decide +kernel
theorem dX4_isClash_112 : decode cX4_isClash 112 = .ok (.iload 6, 2) := by decide +kernel
theorem dX4_isClash_114 : decode cX4_isClash 114 = .ok (.ifCond .ne 7, 3) := by decide +kernel
theorem dX4_isClash_117 : decode cX4_isClash 117 = .ok (.iconst 1, 1) := by decide +kernel
theorem dX4_isClash_118 : decode cX4_isClash 118 = .ok (.goto 4, 3) := by decide +kernel
theorem dX4_isClash_121 : decode cX4_isClash 121 = .ok (.iconst 0, 1) := by decide +kernel
theorem dX4_isClash_122 : decode cX4_isClash 122 = .ok (.ireturn, 1) := by decide +kernel
theorem dX4_clash_0 : decode cX4_clash 0 = .ok (.iload_n 1, 1) := by decide +kernel
theorem dX4_clash_1 : decode cX4_clash 1 = .ok (.i2l, 1) := by decide +kernel
theorem dX4_clash_2 : decode cX4_clash 2 = .ok (.lconst 1, 1) := by decide +kernel
theorem dX4_clash_3 : decode cX4_clash 3 = .ok (.ldc2_w 198, 3) := by decide +kernel
theorem dX4_clash_6 : decode cX4_clash 6 = .ok (.invokestatic 49, 3) := by decide +kernel
theorem dX4_clash_9 : decode cX4_clash 9 = .ok (.ifCond .ne 10, 3) := by decide +kernel
theorem dX4_clash_12 : decode cX4_clash 12 = .ok (.aload_n 0, 1) := by decide +kernel
theorem dX4_clash_13 : decode cX4_clash 13 = .ok (.ldc 44, 2) := by decide +kernel
theorem dX4_clash_15 : decode cX4_clash 15 = .ok (.invokevirtual 63, 3) := by decide +kernel
theorem dX4_clash_18 : decode cX4_clash 18 = .ok (.ireturn, 1) := by decide +kernel
theorem dX4_clash_19 : decode cX4_clash 19 = .ok (.aload_n 0, 1) := by decide +kernel
theorem dX4_clash_20 : decode cX4_clash 20 = .ok (.invokevirtual 171, 3) := by decide +kernel
theorem dX4_clash_23 : decode cX4_clash 23 = .ok (.iconst 0, 1) := by decide +kernel
theorem dX4_clash_24 : decode cX4_clash 24 = .ok (.istore_n 2, 1) := by decide +kernel
theorem dX4_clash_25 : decode cX4_clash 25 = .ok (.iload_n 2, 1) := by decide +kernel
theorem dX4_clash_26 : decode cX4_clash 26 = .ok (.iload_n 1, 1) := by decide +kernel
theorem dX4_clash_27 : decode cX4_clash 27 = .ok (.if_icmp .gt 23, 3) := by decide +kernel
theorem dX4_clash_30 : decode cX4_clash 30 = .ok (.aload_n 0, 1) := by decide +kernel
theorem dX4_clash_31 : decode cX4_clash 31 = .ok (.getfield 25, 3) := by decide +kernel
theorem dX4_clash_34 : decode cX4_clash 34 = .ok (.iload_n 2, 1) := by decide +kernel
theorem dX4_clash_35 : decode cX4_clash 35 = .ok (.aload_n 0, 1) := by decide +kernel
theorem dX4_clash_36 : decode cX4_clash 36 = .ok (.invokevirtual 101, 3) := by decide +kernel
theorem dX4_clash_39 : decode cX4_clash 39 = .ok (.iastore, 1) := by decide +kernel
theorem dX4_clash_40 : decode cX4_clash 40 = .ok (.aload_n 0, 1) := by decide +kernel
theorem dX4_clash_41 : decode cX4_clash 41 = .ok (.invokevirtual 159, 3) := by decide +kernel
theorem dX4_clash_44 : decode cX4_clash 44 = .ok (.iinc 2 1, 3) := by decide +kernel
theorem dX4_clash_47 : decode cX4_clash 47 = .ok (.goto (-22), 3) := by decide +kernel
theorem dX4_clash_50 : decode cX4_clash 50 = .ok (.aload_n 0, 1) := by decide +kernel
theorem dX4_clash_51 : decode cX4_clash 51 = .ok (.iconst (-1), 1) := by decide +kernel
theorem dX4_clash_52 : decode cX4_clash 52 = .ok (.invokevirtual 174, 3) := by decide +kernel
theorem dX4_clash_55 : decode cX4_clash 55 = .ok (.istore_n 2, 1) := by decide +kernel
theorem dX4_clash_56 : decode cX4_clash 56 = .ok (.aload_n 0, 1) := by decide +kernel
theorem dX4_clash_57 : decode cX4_clash 57 = .ok (.getfield 7, 3) := by decide +kernel
theorem dX4_clash_60 : decode cX4_clash 60 = .ok (.iconst 1, 1) := by decide +kernel
theorem dX4_clash_61 : decode cX4_clash 61 = .ok (.iaload, 1) := by decide +kernel
theorem dX4_clash_62 : decode cX4_clash 62 = .ok (.iconst 1, 1) := by decide +kernel
theorem dX4_clash_63 : decode cX4_clash 63 = .ok (.isub, 1) := by decide +kernel
theorem dX4_clash_64 : decode cX4_clash 64 = .ok (.istore_n 3, 1) := by decide +kernel
theorem dX4_clash_65 : decode cX4_clash 65 = .ok (.iload_n 3, 1) := by decide +kernel
theorem dX4_clash_66 : decode cX4_clash 66 = .ok (.ifCond .lt 54, 3) := by decide +kernel
theorem dX4_clash_69 : decode cX4_clash 69 = .ok (.aload_n 0, 1) := by decide +kernel
theorem dX4_clash_70 : decode cX4_clash 70 = .ok (.getfield 7, 3) := by decide +kernel
theorem dX4_clash_73 : decode cX4_clash 73 = .ok (.iconst 1, 1) := by decide +kernel
theorem dX4_clash_74 : decode cX4_clash 74 = .ok (.iaload, 1) := by decide +kernel
theorem dX4_clash_75 : decode cX4_clash 75 = .ok (.iconst 1, 1) := by decide +kernel
theorem dX4_clash_76 : decode cX4_clash 76 = .ok (.isub, 1) := by decide +kernel
theorem dX4_clash_77 : decode cX4_clash 77 = .ok (.istore 4, 2) := by decide +kernel
theorem dX4_clash_79 : decode cX4_clash 79 = .ok (.iload 4, 2) := by decide +kernel
theorem dX4_clash_81 : decode cX4_clash 81 = .ok (.iload_n 3, 1) := by decide +kernel
theorem dX4_clash_82 : decode cX4_clash 82 = .ok (.if_icmp .le 32, 3) := by decide +kernel
theorem dX4_clash_85 : decode cX4_clash 85 = .ok (.aload_n 0, 1) := by decide +kernel
theorem dX4_clash_86 : decode cX4_clash 86 = .ok (.iload_n 3, 1) := by decide +kernel
theorem dX4_clash_87 : decode cX4_clash 87 = .ok (.iload 4, 2) := by decide +kernel
theorem dX4_clash_89 : decode cX4_clash 89 = .ok (.iload_n 1, 1) := by decide +kernel
theorem dX4_clash_90 : decode cX4_clash 90 = .ok (.invokevirtual 203, 3) := by decide +kernel
theorem dX4_clash_93 : decode cX4_clash 93 = .ok (.ifCond .eq 13, 3) := by decide +kernel
theorem dX4_clash_96 : decode cX4_clash 96 = .ok (.bipush 10, 2) := by decide +kernel
theorem dX4_clash_98 : decode cX4_clash 98 = .ok (.iload_n 3, 1) := by decide +kernel
theorem dX4_clash_99 : decode cX4_clash 99 = .ok (.imul, 1) := by decide +kernel
theorem dX4_clash_100 : decode cX4_clash 100 = .ok (.iload 4, 2) := by decide +kernel
theorem dX4_clash_102 : decode cX4_clash 102 = .ok (.iadd, 1) := by decide +kernel
theorem dX4_clash_103 : decode cX4_clash 103 = .ok (.goto 4, 3) := by decide +kernel
theorem dX4_clash_106 : decode cX4_clash 106 = .ok (.iload_n 2, 1) := by decide +kernel
theorem dX4_clash_107 : decode cX4_clash 107 = .ok (.istore_n 2, 1) := by decide +kernel
theorem dX4_clash_108 : decode cX4_clash 108 = .ok (.iinc 4 (-1), 3) := by decide +kernel
theorem dX4_clash_111 : decode cX4_clash 111 = .ok (.goto (-32), 3) := by decide +kernel
theorem dX4_clash_114 : decode cX4_clash 114 = .ok (.iinc 3 (-1), 3) := by decide +kernel
theorem dX4_clash_117 : decode cX4_clash 117 = .ok (.goto (-52), 3) := by decide +kernel
theorem dX4_clash_120 : decode cX4_clash 120 = .ok (.iload_n 2, 1) := by decide +kernel
theorem dX4_clash_121 : decode cX4_clash 121 = .ok (.ifCond .ge 12, 3) := by decide +kernel
theorem dX4_clash_124 : decode cX4_clash 124 = .ok (.aload_n 0, 1) := by decide +kernel
theorem dX4_clash_125 : decode cX4_clash 125 = .ok (.ldc 186, 2) := by decide +kernel
theorem dX4_clash_127 : decode cX4_clash 127 = .ok (.invokevirtual 63, 3) := by decide +kernel
theorem dX4_clash_130 : decode cX4_clash 130 = .ok (.goto 4, 3) := by decide +kernel
theorem dX4_clash_133 : decode cX4_clash 133 = .ok (.iload_n 2, 1) := by decide +kernel
theorem dX4_clash_134 : decode cX4_clash 134 = .ok (.ireturn, 1) := by decide +kernel
theorem dX4_want_0 : decode cX4_want 0 = .ok (.aload_n 0, 1) := by decide +kernel
theorem dX4_want_1 : decode cX4_want 1 = .ok (.iload_n 1, 1) := by decide +kernel
theorem dX4_want_2 : decode cX4_want 2 = .ok (.invokevirtual 128, 3) := by decide +kernel
theorem dX4_want_5 : decode cX4_want 5 = .ok (.ifCond .eq 24, 3) := by decide +kernel
theorem dX4_want_8 : decode cX4_want 8 = .ok (.iload_n 2, 1) := by decide +kernel
theorem dX4_want_9 : decode cX4_want 9 = .ok (.invokestatic 195, 3) := by decide +kernel
theorem dX4_want_12 : decode cX4_want 12 = .ok (.ifCond .eq 17, 3) := by decide +kernel
theorem dX4_want_15 : decode cX4_want 15 = .ok (.aload_n 0, 1) := by decide +kernel
theorem dX4_want_16 : decode cX4_want 16 = .ok (.iload_n 1, 1) := by decide +kernel
theorem dX4_want_17 : decode cX4_want 17 = .ok (.iconst 5, 1) := by decide +kernel
theorem dX4_want_18 : decode cX4_want 18 = .ok (.invokestatic 45, 3) := by decide +kernel
theorem dX4_want_21 : decode cX4_want 21 = .ok (.iconst 4, 1) := by decide +kernel
theorem dX4_want_22 : decode cX4_want 22 = .ok (.iload_n 2, 1) := by decide +kernel
theorem dX4_want_23 : decode cX4_want 23 = .ok (.invokevirtual 200, 3) := by decide +kernel
theorem dX4_want_26 : decode cX4_want 26 = .ok (.goto 9, 3) := by decide +kernel
theorem dX4_want_29 : decode cX4_want 29 = .ok (.aload_n 0, 1) := by decide +kernel
theorem dX4_want_30 : decode cX4_want 30 = .ok (.ldc 44, 2) := by decide +kernel
theorem dX4_want_32 : decode cX4_want 32 = .ok (.invokevirtual 63, 3) := by decide +kernel
theorem dX4_want_35 : decode cX4_want 35 = .ok (.ireturn, 1) := by decide +kernel
theorem dX4_nose_0 : decode cX4_nose 0 = .ok (.aload_n 0, 1) := by decide +kernel
theorem dX4_nose_1 : decode cX4_nose 1 = .ok (.iload_n 1, 1) := by decide +kernel
theorem dX4_nose_2 : decode cX4_nose 2 = .ok (.invokevirtual 128, 3) := by decide +kernel
theorem dX4_nose_5 : decode cX4_nose 5 = .ok (.ifCond .eq 15, 3) := by decide +kernel
theorem dX4_nose_8 : decode cX4_nose 8 = .ok (.iload_n 2, 1) := by decide +kernel
theorem dX4_nose_9 : decode cX4_nose 9 = .ok (.i2l, 1) := by decide +kernel
theorem dX4_nose_10 : decode cX4_nose 10 = .ok (.lconst 0, 1) := by decide +kernel
theorem dX4_nose_11 : decode cX4_nose 11 = .ok (.ldc2_w 193, 3) := by decide +kernel
theorem dX4_nose_14 : decode cX4_nose 14 = .ok (.invokestatic 49, 3) := by decide +kernel
theorem dX4_nose_17 : decode cX4_nose 17 = .ok (.ifCond .ne 10, 3) := by decide +kernel
theorem dX4_nose_20 : decode cX4_nose 20 = .ok (.aload_n 0, 1) := by decide +kernel
theorem dX4_nose_21 : decode cX4_nose 21 = .ok (.ldc 44, 2) := by decide +kernel
theorem dX4_nose_23 : decode cX4_nose 23 = .ok (.invokevirtual 63, 3) := by decide +kernel
theorem dX4_nose_26 : decode cX4_nose 26 = .ok (.ireturn, 1) := by decide +kernel
theorem dX4_nose_27 : decode cX4_nose 27 = .ok (.iload_n 1, 1) := by decide +kernel
theorem dX4_nose_28 : decode cX4_nose 28 = .ok (.iconst 3, 1) := by decide +kernel
theorem dX4_nose_29 : decode cX4_nose 29 = .ok (.invokestatic 45, 3) := by decide +kernel
theorem dX4_nose_32 : decode cX4_nose 32 = .ok (.istore_n 3, 1) := by decide +kernel
theorem dX4_nose_33 : decode cX4_nose 33 = .ok (.aload_n 0, 1) := by decide +kernel
theorem dX4_nose_34 : decode cX4_nose 34 = .ok (.getfield 7, 3) := by decide +kernel
theorem dX4_nose_37 : decode cX4_nose 37 = .ok (.iload_n 3, 1) := by decide +kernel
theorem dX4_nose_38 : decode cX4_nose 38 = .ok (.iaload, 1) := by decide +kernel
theorem dX4_nose_39 : decode cX4_nose 39 = .ok (.istore 4, 2) := by decide +kernel
theorem dX4_nose_41 : decode cX4_nose 41 = .ok (.iconst (-1), 1) := by decide +kernel
theorem dX4_nose_42 : decode cX4_nose 42 = .ok (.istore 5, 2) := by decide +kernel
theorem dX4_nose_44 : decode cX4_nose 44 = .ok (.bipush 99, 2) := by decide +kernel
theorem dX4_nose_46 : decode cX4_nose 46 = .ok (.istore 6, 2) := by decide +kernel
theorem dX4_nose_48 : decode cX4_nose 48 = .ok (.iload 6, 2) := by decide +kernel
theorem dX4_nose_50 : decode cX4_nose 50 = .ok (.ifCond .lt 41, 3) := by decide +kernel
theorem dX4_nose_53 : decode cX4_nose 53 = .ok (.iload 5, 2) := by decide +kernel
theorem dX4_nose_55 : decode cX4_nose 55 = .ok (.ifCond .ge 36, 3) := by decide +kernel
theorem dX4_nose_58 : decode cX4_nose 58 = .ok (.aload_n 0, 1) := by decide +kernel
theorem dX4_nose_59 : decode cX4_nose 59 = .ok (.getfield 7, 3) := by decide +kernel
theorem dX4_nose_62 : decode cX4_nose 62 = .ok (.iload_n 3, 1) := by decide +kernel
theorem dX4_nose_63 : decode cX4_nose 63 = .ok (.iload 6, 2) := by decide +kernel
theorem dX4_nose_65 : decode cX4_nose 65 = .ok (.iastore, 1) := by decide +kernel
theorem dX4_nose_66 : decode cX4_nose 66 = .ok (.aload_n 0, 1) := by decide +kernel
theorem dX4_nose_67 : decode cX4_nose 67 = .ok (.iload_n 3, 1) := by decide +kernel
theorem dX4_nose_68 : decode cX4_nose 68 = .ok (.iload_n 2, 1) := by decide +kernel
theorem dX4_nose_69 : decode cX4_nose 69 = .ok (.invokevirtual 183, 3) := by decide +kernel
theorem dX4_nose_72 : decode cX4_nose 72 = .ok (.bipush 10, 2) := by decide +kernel
theorem dX4_nose_74 : decode cX4_nose 74 = .ok (.if_icmp .gt 8, 3) := by decide +kernel
theorem dX4_nose_77 : decode cX4_nose 77 = .ok (.iload 6, 2) := by decide +kernel
theorem dX4_nose_79 : decode cX4_nose 79 = .ok (.goto 4, 3) := by decide +kernel
theorem dX4_nose_82 : decode cX4_nose 82 = .ok (.iconst (-1), 1) := by decide +kernel
theorem dX4_nose_83 : decode cX4_nose 83 = .ok (.istore 5, 2) := by decide +kernel
theorem dX4_nose_85 : decode cX4_nose 85 = .ok (.iinc 6 (-1), 3) := by decide +kernel
theorem dX4_nose_88 : decode cX4_nose 88 = .ok (.goto (-40), 3) := by decide +kernel
theorem dX4_nose_91 : decode cX4_nose 91 = .ok (.aload_n 0, 1) := by decide +kernel
theorem dX4_nose_92 : decode cX4_nose 92 = .ok (.getfield 7, 3) := by decide +kernel
theorem dX4_nose_95 : decode cX4_nose 95 = .ok (.iload_n 3, 1) := by decide +kernel
theorem dX4_nose_96 : decode cX4_nose 96 = .ok (.iload 4, 2) := by decide +kernel
theorem dX4_nose_98 : decode cX4_nose 98 = .ok (.iastore, 1) := by decide +kernel
theorem dX4_nose_99 : decode cX4_nose 99 = .ok (.iload 5, 2) := by decide +kernel
theorem dX4_nose_101 : decode cX4_nose 101 = .ok (.ifCond .ge 12, 3) := by decide +kernel
theorem dX4_nose_104 : decode cX4_nose 104 = .ok (.aload_n 0, 1) := by decide +kernel
theorem dX4_nose_105 : decode cX4_nose 105 = .ok (.ldc 186, 2) := by decide +kernel
theorem dX4_nose_107 : decode cX4_nose 107 = .ok (.invokevirtual 63, 3) := by decide +kernel
theorem dX4_nose_110 : decode cX4_nose 110 = .ok (.goto 5, 3) := by decide +kernel
theorem dX4_nose_113 : decode cX4_nose 113 = .ok (.iload 5, 2) := by decide +kernel
theorem dX4_nose_115 : decode cX4_nose 115 = .ok (.ireturn, 1) := by decide +kernel
theorem dX4_feed_0 : decode cX4_feed 0 = .ok (.iload_n 2, 1) := by decide +kernel
theorem dX4_feed_1 : decode cX4_feed 1 = .ok (.i2l, 1) := by decide +kernel
theorem dX4_feed_2 : decode cX4_feed 2 = .ok (.lconst 1, 1) := by decide +kernel
theorem dX4_feed_3 : decode cX4_feed 3 = .ok (.ldc2_w 138, 3) := by decide +kernel
theorem dX4_feed_6 : decode cX4_feed 6 = .ok (.invokestatic 49, 3) := by decide +kernel
theorem dX4_feed_9 : decode cX4_feed 9 = .ok (.ifCond .ne 10, 3) := by decide +kernel
theorem dX4_feed_12 : decode cX4_feed 12 = .ok (.aload_n 0, 1) := by decide +kernel
theorem dX4_feed_13 : decode cX4_feed 13 = .ok (.ldc 44, 2) := by decide +kernel
theorem dX4_feed_15 : decode cX4_feed 15 = .ok (.invokevirtual 63, 3) := by decide +kernel
theorem dX4_feed_18 : decode cX4_feed 18 = .ok (.ireturn, 1) := by decide +kernel
theorem dX4_feed_19 : decode cX4_feed 19 = .ok (.aload_n 0, 1) := by decide +kernel
theorem dX4_feed_20 : decode cX4_feed 20 = .ok (.getfield 207, 3) := by decide +kernel
theorem dX4_feed_23 : decode cX4_feed 23 = .ok (.iload_n 2, 1) := by decide +kernel
theorem dX4_feed_24 : decode cX4_feed 24 = .ok (.iadd, 1) := by decide +kernel
theorem dX4_feed_25 : decode cX4_feed 25 = .ok (.bipush 120, 2) := by decide +kernel
theorem dX4_feed_27 : decode cX4_feed 27 = .ok (.if_icmp .le 10, 3) := by decide +kernel
theorem dX4_feed_30 : decode cX4_feed 30 = .ok (.aload_n 0, 1) := by decide +kernel
theorem dX4_feed_31 : decode cX4_feed 31 = .ok (.ldc 123, 2) := by decide +kernel
theorem dX4_feed_33 : decode cX4_feed 33 = .ok (.invokevirtual 63, 3) := by decide +kernel
theorem dX4_feed_36 : decode cX4_feed 36 = .ok (.ireturn, 1) := by decide +kernel
theorem dX4_feed_37 : decode cX4_feed 37 = .ok (.iload_n 2, 1) := by decide +kernel
theorem dX4_feed_38 : decode cX4_feed 38 = .ok (.iconst 1, 1) := by decide +kernel
theorem dX4_feed_39 : decode cX4_feed 39 = .ok (.isub, 1) := by decide +kernel
theorem dX4_feed_40 : decode cX4_feed 40 = .ok (.istore_n 3, 1) := by decide +kernel
theorem dX4_feed_41 : decode cX4_feed 41 = .ok (.iload_n 3, 1) := by decide +kernel
theorem dX4_feed_42 : decode cX4_feed 42 = .ok (.ifCond .lt 38, 3) := by decide +kernel
theorem dX4_feed_45 : decode cX4_feed 45 = .ok (.aload_n 0, 1) := by decide +kernel
theorem dX4_feed_46 : decode cX4_feed 46 = .ok (.getfield 28, 3) := by decide +kernel
theorem dX4_feed_49 : decode cX4_feed 49 = .ok (.aload_n 0, 1) := by decide +kernel
theorem dX4_feed_50 : decode cX4_feed 50 = .ok (.getfield 207, 3) := by decide +kernel
theorem dX4_feed_53 : decode cX4_feed 53 = .ok (.iload_n 1, 1) := by decide +kernel
theorem dX4_feed_54 : decode cX4_feed 54 = .ok (.bipush 8, 2) := by decide +kernel
theorem dX4_feed_56 : decode cX4_feed 56 = .ok (.iload_n 3, 1) := by decide +kernel
theorem dX4_feed_57 : decode cX4_feed 57 = .ok (.imul, 1) := by decide +kernel
theorem dX4_feed_58 : decode cX4_feed 58 = .ok (.ishr, 1) := by decide +kernel
theorem dX4_feed_59 : decode cX4_feed 59 = .ok (.sipush 255, 3) := by decide +kernel
theorem dX4_feed_62 : decode cX4_feed 62 = .ok (.iand, 1) := by decide +kernel
theorem dX4_feed_63 : decode cX4_feed 63 = .ok (.iastore, 1) := by decide +kernel
theorem dX4_feed_64 : decode cX4_feed 64 = .ok (.aload_n 0, 1) := by decide +kernel
theorem dX4_feed_65 : decode cX4_feed 65 = .ok (.dup, 1) := by decide +kernel
theorem dX4_feed_66 : decode cX4_feed 66 = .ok (.getfield 207, 3) := by decide +kernel
theorem dX4_feed_69 : decode cX4_feed 69 = .ok (.iconst 1, 1) := by decide +kernel
theorem dX4_feed_70 : decode cX4_feed 70 = .ok (.iadd, 1) := by decide +kernel
theorem dX4_feed_71 : decode cX4_feed 71 = .ok (.putfield 207, 3) := by decide +kernel
theorem dX4_feed_74 : decode cX4_feed 74 = .ok (.iinc 3 (-1), 3) := by decide +kernel
theorem dX4_feed_77 : decode cX4_feed 77 = .ok (.goto (-36), 3) := by decide +kernel
theorem dX4_feed_80 : decode cX4_feed 80 = .ok (.aload_n 0, 1) := by decide +kernel
theorem dX4_feed_81 : decode cX4_feed 81 = .ok (.getfield 207, 3) := by decide +kernel
theorem dX4_feed_84 : decode cX4_feed 84 = .ok (.ireturn, 1) := by decide +kernel
theorem dX4_wipe_0 : decode cX4_wipe 0 = .ok (.aload_n 0, 1) := by decide +kernel
theorem dX4_wipe_1 : decode cX4_wipe 1 = .ok (.getfield 207, 3) := by decide +kernel
theorem dX4_wipe_4 : decode cX4_wipe 4 = .ok (.istore_n 1, 1) := by decide +kernel
theorem dX4_wipe_5 : decode cX4_wipe 5 = .ok (.aload_n 0, 1) := by decide +kernel
theorem dX4_wipe_6 : decode cX4_wipe 6 = .ok (.iconst 0, 1) := by decide +kernel
theorem dX4_wipe_7 : decode cX4_wipe 7 = .ok (.putfield 207, 3) := by decide +kernel
theorem dX4_wipe_10 : decode cX4_wipe 10 = .ok (.iload_n 1, 1) := by decide +kernel
theorem dX4_wipe_11 : decode cX4_wipe 11 = .ok (.ireturn, 1) := by decide +kernel
theorem dX4_byteAt_0 : decode cX4_byteAt 0 = .ok (.iload_n 1, 1) := by decide +kernel
theorem dX4_byteAt_1 : decode cX4_byteAt 1 = .ok (.aload_n 0, 1) := by decide +kernel
theorem dX4_byteAt_2 : decode cX4_byteAt 2 = .ok (.getfield 207, 3) := by decide +kernel
theorem dX4_byteAt_5 : decode cX4_byteAt 5 = .ok (.if_icmp .ge 12, 3) := by decide +kernel
theorem dX4_byteAt_8 : decode cX4_byteAt 8 = .ok (.aload_n 0, 1) := by decide +kernel
theorem dX4_byteAt_9 : decode cX4_byteAt 9 = .ok (.getfield 28, 3) := by decide +kernel
theorem dX4_byteAt_12 : decode cX4_byteAt 12 = .ok (.iload_n 1, 1) := by decide +kernel
theorem dX4_byteAt_13 : decode cX4_byteAt 13 = .ok (.iaload, 1) := by decide +kernel
theorem dX4_byteAt_14 : decode cX4_byteAt 14 = .ok (.goto 4, 3) := by decide +kernel
theorem dX4_byteAt_17 : decode cX4_byteAt 17 = .ok (.iconst (-1), 1) := by decide +kernel
theorem dX4_byteAt_18 : decode cX4_byteAt 18 = .ok (.ireturn, 1) := by decide +kernel
theorem dX4_isLetter_0 : decode cX4_isLetter 0 = .ok (.iload_n 0, 1) := by decide +kernel
theorem dX4_isLetter_1 : decode cX4_isLetter 1 = .ok (.i2l, 1) := by decide +kernel
theorem dX4_isLetter_2 : decode cX4_isLetter 2 = .ok (.ldc2_w 211, 3) := by decide +kernel
theorem dX4_isLetter_5 : decode cX4_isLetter 5 = .ok (.ldc2_w 213, 3) := by decide +kernel
theorem dX4_isLetter_8 : decode cX4_isLetter 8 = .ok (.invokestatic 49, 3) := by decide +kernel
theorem dX4_isLetter_11 : decode cX4_isLetter 11 = .ok (.ireturn, 1) := by decide +kernel
theorem dX4_isDigit_0 : decode cX4_isDigit 0 = .ok (.iload_n 0, 1) := by decide +kernel
theorem dX4_isDigit_1 : decode cX4_isDigit 1 = .ok (.i2l, 1) := by decide +kernel
theorem dX4_isDigit_2 : decode cX4_isDigit 2 = .ok (.ldc2_w 215, 3) := by decide +kernel
theorem dX4_isDigit_5 : decode cX4_isDigit 5 = .ok (.ldc2_w 217, 3) := by decide +kernel
theorem dX4_isDigit_8 : decode cX4_isDigit 8 = .ok (.invokestatic 49, 3) := by decide +kernel
theorem dX4_isDigit_11 : decode cX4_isDigit 11 = .ok (.ireturn, 1) := by decide +kernel
theorem dX4_token_0 : decode cX4_token 0 = .ok (.aload_n 0, 1) := by decide +kernel
theorem dX4_token_1 : decode cX4_token 1 = .ok (.aload_n 0, 1) := by decide +kernel
theorem dX4_token_2 : decode cX4_token 2 = .ok (.getfield 219, 3) := by decide +kernel
theorem dX4_token_5 : decode cX4_token 5 = .ok (.putfield 222, 3) := by decide +kernel
theorem dX4_token_8 : decode cX4_token 8 = .ok (.aload_n 0, 1) := by decide +kernel
theorem dX4_token_9 : decode cX4_token 9 = .ok (.aload_n 0, 1) := by decide +kernel
theorem dX4_token_10 : decode cX4_token 10 = .ok (.getfield 222, 3) := by decide +kernel
theorem dX4_token_13 : decode cX4_token 13 = .ok (.invokevirtual 225, 3) := by decide +kernel
theorem dX4_token_16 : decode cX4_token 16 = .ok (.bipush 32, 2) := by decide +kernel
theorem dX4_token_18 : decode cX4_token 18 = .ok (.if_icmp .ne 16, 3) := by decide +kernel
theorem dX4_token_21 : decode cX4_token 21 = .ok (.aload_n 0, 1) := by decide +kernel
theorem dX4_token_22 : decode cX4_token 22 = .ok (.dup, 1) := by decide +kernel
theorem dX4_token_23 : decode cX4_token 23 = .ok (.getfield 222, 3) := by decide +kernel
theorem dX4_token_26 : decode cX4_token 26 = .ok (.iconst 1, 1) := by decide +kernel
theorem dX4_token_27 : decode cX4_token 27 = .ok (.iadd, 1) := by decide +kernel
theorem dX4_token_28 : decode cX4_token 28 = .ok (.putfield 222, 3) := by decide +kernel
theorem dX4_token_31 : decode cX4_token 31 = .ok (.goto (-23), 3) := by decide +kernel
theorem dX4_token_34 : decode cX4_token 34 = .ok (.aload_n 0, 1) := by decide +kernel
theorem dX4_token_35 : decode cX4_token 35 = .ok (.aload_n 0, 1) := by decide +kernel
theorem dX4_token_36 : decode cX4_token 36 = .ok (.getfield 222, 3) := by decide +kernel
theorem dX4_token_39 : decode cX4_token 39 = .ok (.invokevirtual 225, 3) := by decide +kernel
theorem dX4_token_42 : decode cX4_token 42 = .ok (.invokestatic 228, 3) := by decide +kernel
theorem dX4_token_45 : decode cX4_token 45 = .ok (.istore_n 1, 1) := by decide +kernel
theorem dX4_token_46 : decode cX4_token 46 = .ok (.aload_n 0, 1) := by decide +kernel
theorem dX4_token_47 : decode cX4_token 47 = .ok (.aload_n 0, 1) := by decide +kernel
theorem dX4_token_48 : decode cX4_token 48 = .ok (.getfield 222, 3) := by decide +kernel
theorem dX4_token_51 : decode cX4_token 51 = .ok (.invokevirtual 225, 3) := by decide +kernel
theorem dX4_token_54 : decode cX4_token 54 = .ok (.invokestatic 231, 3) := by decide +kernel
theorem dX4_token_57 : decode cX4_token 57 = .ok (.istore_n 2, 1) := by decide +kernel
theorem dX4_token_58 : decode cX4_token 58 = .ok (.aload_n 0, 1) := by decide +kernel
theorem dX4_token_59 : decode cX4_token 59 = .ok (.aload_n 0, 1) := by decide +kernel
theorem dX4_token_60 : decode cX4_token 60 = .ok (.getfield 222, 3) := by decide +kernel
theorem dX4_token_63 : decode cX4_token 63 = .ok (.aload_n 0, 1) := by decide +kernel
theorem dX4_token_64 : decode cX4_token 64 = .ok (.getfield 207, 3) := by decide +kernel
theorem dX4_token_67 : decode cX4_token 67 = .ok (.if_icmp .ge 12, 3) := by decide +kernel
theorem dX4_token_70 : decode cX4_token 70 = .ok (.aload_n 0, 1) := by decide +kernel
theorem dX4_token_71 : decode cX4_token 71 = .ok (.getfield 222, 3) := by decide +kernel
theorem dX4_token_74 : decode cX4_token 74 = .ok (.iconst 1, 1) := by decide +kernel
theorem dX4_token_75 : decode cX4_token 75 = .ok (.iadd, 1) := by decide +kernel
theorem dX4_token_76 : decode cX4_token 76 = .ok (.goto 7, 3) := by decide +kernel
theorem dX4_token_79 : decode cX4_token 79 = .ok (.aload_n 0, 1) := by decide +kernel
theorem dX4_token_80 : decode cX4_token 80 = .ok (.getfield 222, 3) := by decide +kernel
theorem dX4_token_83 : decode cX4_token 83 = .ok (.putfield 219, 3) := by decide +kernel
theorem dX4_token_86 : decode cX4_token 86 = .ok (.iload_n 1, 1) := by decide +kernel
theorem dX4_token_87 : decode cX4_token 87 = .ok (.ifCond .eq 17, 3) := by decide +kernel
theorem dX4_token_90 : decode cX4_token 90 = .ok (.aload_n 0, 1) := by decide +kernel
theorem dX4_token_91 : decode cX4_token 91 = .ok (.aload_n 0, 1) := by decide +kernel
theorem dX4_token_92 : decode cX4_token 92 = .ok (.getfield 219, 3) := by decide +kernel
theorem dX4_token_95 : decode cX4_token 95 = .ok (.invokevirtual 225, 3) := by decide +kernel
theorem dX4_token_98 : decode cX4_token 98 = .ok (.invokestatic 228, 3) := by decide +kernel
theorem dX4_token_101 : decode cX4_token 101 = .ok (.ifCond .ne 21, 3) := by decide +kernel
theorem dX4_token_104 : decode cX4_token 104 = .ok (.iload_n 2, 1) := by decide +kernel
theorem dX4_token_105 : decode cX4_token 105 = .ok (.ifCond .eq 30, 3) := by decide +kernel
theorem dX4_token_108 : decode cX4_token 108 = .ok (.aload_n 0, 1) := by decide +kernel
theorem dX4_token_109 : decode cX4_token 109 = .ok (.aload_n 0, 1) := by decide +kernel
theorem dX4_token_110 : decode cX4_token 110 = .ok (.getfield 219, 3) := by decide +kernel
theorem dX4_token_113 : decode cX4_token 113 = .ok (.invokevirtual 225, 3) := by decide +kernel
theorem dX4_token_116 : decode cX4_token 116 = .ok (.invokestatic 231, 3) := by decide +kernel
theorem dX4_token_119 : decode cX4_token 119 = .ok (.ifCond .eq 16, 3) := by decide +kernel
theorem dX4_token_122 : decode cX4_token 122 = .ok (.aload_n 0, 1) := by decide +kernel
theorem dX4_token_123 : decode cX4_token 123 = .ok (.dup, 1) := by decide +kernel
theorem dX4_token_124 : decode cX4_token 124 = .ok (.getfield 219, 3) := by decide +kernel
theorem dX4_token_127 : decode cX4_token 127 = .ok (.iconst 1, 1) := by decide +kernel
theorem dX4_token_128 : decode cX4_token 128 = .ok (.iadd, 1) := by decide +kernel
theorem dX4_token_129 : decode cX4_token 129 = .ok (.putfield 219, 3) := by decide +kernel
theorem dX4_token_132 : decode cX4_token 132 = .ok (.goto (-46), 3) := by decide +kernel
theorem dX4_token_135 : decode cX4_token 135 = .ok (.return_, 1) := by decide +kernel
theorem dX4_must_0 : decode cX4_must 0 = .ok (.aload_n 0, 1) := by decide +kernel
theorem dX4_must_1 : decode cX4_must 1 = .ok (.aload_n 0, 1) := by decide +kernel
theorem dX4_must_2 : decode cX4_must 2 = .ok (.getfield 234, 3) := by decide +kernel
theorem dX4_must_5 : decode cX4_must 5 = .ok (.ifCond .ne 7, 3) := by decide +kernel
theorem dX4_must_8 : decode cX4_must 8 = .ok (.iload_n 1, 1) := by decide +kernel
theorem dX4_must_9 : decode cX4_must 9 = .ok (.ifCond .ne 7, 3) := by decide +kernel
theorem dX4_must_12 : decode cX4_must 12 = .ok (.iconst 1, 1) := by decide +kernel
theorem dX4_must_13 : decode cX4_must 13 = .ok (.goto 4, 3) := by decide +kernel
theorem dX4_must_16 : decode cX4_must 16 = .ok (.iconst 0, 1) := by decide +kernel
theorem dX4_must_17 : decode cX4_must 17 = .ok (.putfield 234, 3) := by decide +kernel
theorem dX4_must_20 : decode cX4_must 20 = .ok (.aload_n 0, 1) := by decide +kernel
theorem dX4_must_21 : decode cX4_must 21 = .ok (.getfield 234, 3) := by decide +kernel
theorem dX4_must_24 : decode cX4_must 24 = .ok (.ifCond .ne 7, 3) := by decide +kernel
theorem dX4_must_27 : decode cX4_must 27 = .ok (.aload_n 0, 1) := by decide +kernel
theorem dX4_must_28 : decode cX4_must 28 = .ok (.invokevirtual 238, 3) := by decide +kernel
theorem dX4_must_31 : decode cX4_must 31 = .ok (.return_, 1) := by decide +kernel
theorem dX4_word_0 : decode cX4_word 0 = .ok (.lconst 0, 1) := by decide +kernel
theorem dX4_word_1 : decode cX4_word 1 = .ok (.lstore_n 1, 1) := by decide +kernel
theorem dX4_word_2 : decode cX4_word 2 = .ok (.aload_n 0, 1) := by decide +kernel
theorem dX4_word_3 : decode cX4_word 3 = .ok (.getfield 222, 3) := by decide +kernel
theorem dX4_word_6 : decode cX4_word 6 = .ok (.istore_n 3, 1) := by decide +kernel
theorem dX4_word_7 : decode cX4_word 7 = .ok (.iload_n 3, 1) := by decide +kernel
theorem dX4_word_8 : decode cX4_word 8 = .ok (.aload_n 0, 1) := by decide +kernel
theorem dX4_word_9 : decode cX4_word 9 = .ok (.getfield 219, 3) := by decide +kernel
theorem dX4_word_12 : decode cX4_word 12 = .ok (.if_icmp .ge 38, 3) := by decide +kernel
theorem dX4_word_15 : decode cX4_word 15 = .ok (.lload_n 1, 1) := by decide +kernel
theorem dX4_word_16 : decode cX4_word 16 = .ok (.ldc2_w 241, 3) := by decide +kernel
theorem dX4_word_19 : decode cX4_word 19 = .ok (.lcmp, 1) := by decide +kernel
theorem dX4_word_20 : decode cX4_word 20 = .ok (.ifCond .le 7, 3) := by decide +kernel
theorem dX4_word_23 : decode cX4_word 23 = .ok (.lload_n 1, 1) := by decide +kernel
theorem dX4_word_24 : decode cX4_word 24 = .ok (.goto 19, 3) := by decide +kernel
theorem dX4_word_27 : decode cX4_word 27 = .ok (.ldc2_w 243, 3) := by decide +kernel
theorem dX4_word_30 : decode cX4_word 30 = .ok (.lload_n 1, 1) := by decide +kernel
theorem dX4_word_31 : decode cX4_word 31 = .ok (.lmul, 1) := by decide +kernel
theorem dX4_word_32 : decode cX4_word 32 = .ok (.aload_n 0, 1) := by decide +kernel
theorem dX4_word_33 : decode cX4_word 33 = .ok (.getfield 28, 3) := by decide +kernel
theorem dX4_word_36 : decode cX4_word 36 = .ok (.iload_n 3, 1) := by decide +kernel
theorem dX4_word_37 : decode cX4_word 37 = .ok (.iaload, 1) := by decide +kernel
theorem dX4_word_38 : decode cX4_word 38 = .ok (.bipush 96, 2) := by decide +kernel
theorem dX4_word_40 : decode cX4_word 40 = .ok (.isub, 1) := by decide +kernel
theorem dX4_word_41 : decode cX4_word 41 = .ok (.i2l, 1) := by decide +kernel
theorem dX4_word_42 : decode cX4_word 42 = .ok (.ladd, 1) := by decide +kernel
theorem dX4_word_43 : decode cX4_word 43 = .ok (.lstore_n 1, 1) := by decide +kernel
theorem dX4_word_44 : decode cX4_word 44 = .ok (.iinc 3 1, 3) := by decide +kernel
theorem dX4_word_47 : decode cX4_word 47 = .ok (.goto (-40), 3) := by decide +kernel
theorem dX4_word_50 : decode cX4_word 50 = .ok (.aload_n 0, 1) := by decide +kernel
theorem dX4_word_51 : decode cX4_word 51 = .ok (.getfield 234, 3) := by decide +kernel
theorem dX4_word_54 : decode cX4_word 54 = .ok (.ifCond .ne 17, 3) := by decide +kernel
theorem dX4_word_57 : decode cX4_word 57 = .ok (.aload_n 0, 1) := by decide +kernel
theorem dX4_word_58 : decode cX4_word 58 = .ok (.aload_n 0, 1) := by decide +kernel
theorem dX4_word_59 : decode cX4_word 59 = .ok (.getfield 222, 3) := by decide +kernel
theorem dX4_word_62 : decode cX4_word 62 = .ok (.invokevirtual 225, 3) := by decide +kernel
theorem dX4_word_65 : decode cX4_word 65 = .ok (.invokestatic 228, 3) := by decide +kernel
theorem dX4_word_68 : decode cX4_word 68 = .ok (.ifCond .ne 7, 3) := by decide +kernel
theorem dX4_word_71 : decode cX4_word 71 = .ok (.lconst 0, 1) := by decide +kernel
theorem dX4_word_72 : decode cX4_word 72 = .ok (.goto 4, 3) := by decide +kernel
theorem dX4_word_75 : decode cX4_word 75 = .ok (.lload_n 1, 1) := by decide +kernel
theorem dX4_word_76 : decode cX4_word 76 = .ok (.lreturn, 1) := by decide +kernel
theorem dX4_number_0 : decode cX4_number 0 = .ok (.aload_n 0, 1) := by decide +kernel
theorem dX4_number_1 : decode cX4_number 1 = .ok (.getfield 234, 3) := by decide +kernel
theorem dX4_number_4 : decode cX4_number 4 = .ok (.ifCond .eq 4, 3) := by decide +kernel
theorem dX4_number_7 : decode cX4_number 7 = .ok (.return_, 1) := by decide +kernel
theorem dX4_number_8 : decode cX4_number 8 = .ok (.aload_n 0, 1) := by decide +kernel
theorem dX4_number_9 : decode cX4_number 9 = .ok (.aload_n 0, 1) := by decide +kernel
theorem dX4_number_10 : decode cX4_number 10 = .ok (.getfield 222, 3) := by decide +kernel
theorem dX4_number_13 : decode cX4_number 13 = .ok (.invokevirtual 225, 3) := by decide +kernel
theorem dX4_number_16 : decode cX4_number 16 = .ok (.invokestatic 231, 3) := by decide +kernel
theorem dX4_number_19 : decode cX4_number 19 = .ok (.istore_n 3, 1) := by decide +kernel
theorem dX4_number_20 : decode cX4_number 20 = .ok (.iconst 0, 1) := by decide +kernel
theorem dX4_number_21 : decode cX4_number 21 = .ok (.istore 4, 2) := by decide +kernel
theorem dX4_number_23 : decode cX4_number 23 = .ok (.aload_n 0, 1) := by decide +kernel
theorem dX4_number_24 : decode cX4_number 24 = .ok (.getfield 222, 3) := by decide +kernel
theorem dX4_number_27 : decode cX4_number 27 = .ok (.istore 5, 2) := by decide +kernel
theorem dX4_number_29 : decode cX4_number 29 = .ok (.iload 5, 2) := by decide +kernel
theorem dX4_number_31 : decode cX4_number 31 = .ok (.aload_n 0, 1) := by decide +kernel
theorem dX4_number_32 : decode cX4_number 32 = .ok (.getfield 219, 3) := by decide +kernel
theorem dX4_number_35 : decode cX4_number 35 = .ok (.if_icmp .ge 44, 3) := by decide +kernel
theorem dX4_number_38 : decode cX4_number 38 = .ok (.iload_n 3, 1) := by decide +kernel
theorem dX4_number_39 : decode cX4_number 39 = .ok (.ifCond .eq 40, 3) := by decide +kernel
theorem dX4_number_42 : decode cX4_number 42 = .ok (.iload 4, 2) := by decide +kernel
theorem dX4_number_44 : decode cX4_number 44 = .ok (.sipush 999, 3) := by decide +kernel
theorem dX4_number_47 : decode cX4_number 47 = .ok (.if_icmp .le 8, 3) := by decide +kernel
theorem dX4_number_50 : decode cX4_number 50 = .ok (.iload 4, 2) := by decide +kernel
theorem dX4_number_52 : decode cX4_number 52 = .ok (.goto 19, 3) := by decide +kernel
theorem dX4_number_55 : decode cX4_number 55 = .ok (.bipush 10, 2) := by decide +kernel
theorem dX4_number_57 : decode cX4_number 57 = .ok (.iload 4, 2) := by decide +kernel
theorem dX4_number_59 : decode cX4_number 59 = .ok (.imul, 1) := by decide +kernel
theorem dX4_number_60 : decode cX4_number 60 = .ok (.aload_n 0, 1) := by decide +kernel
theorem dX4_number_61 : decode cX4_number 61 = .ok (.getfield 28, 3) := by decide +kernel
theorem dX4_number_64 : decode cX4_number 64 = .ok (.iload 5, 2) := by decide +kernel
theorem dX4_number_66 : decode cX4_number 66 = .ok (.iaload, 1) := by decide +kernel
theorem dX4_number_67 : decode cX4_number 67 = .ok (.iadd, 1) := by decide +kernel
theorem dX4_number_68 : decode cX4_number 68 = .ok (.bipush 48, 2) := by decide +kernel
theorem dX4_number_70 : decode cX4_number 70 = .ok (.isub, 1) := by decide +kernel
theorem dX4_number_71 : decode cX4_number 71 = .ok (.istore 4, 2) := by decide +kernel
theorem dX4_number_73 : decode cX4_number 73 = .ok (.iinc 5 1, 3) := by decide +kernel
theorem dX4_number_76 : decode cX4_number 76 = .ok (.goto (-47), 3) := by decide +kernel
theorem dX4_number_79 : decode cX4_number 79 = .ok (.aload_n 0, 1) := by decide +kernel
theorem dX4_number_80 : decode cX4_number 80 = .ok (.iload 4, 2) := by decide +kernel
theorem dX4_number_82 : decode cX4_number 82 = .ok (.putfield 245, 3) := by decide +kernel
theorem dX4_number_85 : decode cX4_number 85 = .ok (.aload_n 0, 1) := by decide +kernel
theorem dX4_number_86 : decode cX4_number 86 = .ok (.iload_n 3, 1) := by decide +kernel
theorem dX4_number_87 : decode cX4_number 87 = .ok (.ifCond .eq 20, 3) := by decide +kernel
theorem dX4_number_90 : decode cX4_number 90 = .ok (.iload 4, 2) := by decide +kernel
theorem dX4_number_92 : decode cX4_number 92 = .ok (.i2l, 1) := by decide +kernel
theorem dX4_number_93 : decode cX4_number 93 = .ok (.iload_n 1, 1) := by decide +kernel
theorem dX4_number_94 : decode cX4_number 94 = .ok (.i2l, 1) := by decide +kernel
theorem dX4_number_95 : decode cX4_number 95 = .ok (.iload_n 2, 1) := by decide +kernel
theorem dX4_number_96 : decode cX4_number 96 = .ok (.i2l, 1) := by decide +kernel
theorem dX4_number_97 : decode cX4_number 97 = .ok (.invokestatic 49, 3) := by decide +kernel
theorem dX4_number_100 : decode cX4_number 100 = .ok (.ifCond .eq 7, 3) := by decide +kernel
theorem dX4_number_103 : decode cX4_number 103 = .ok (.iconst 1, 1) := by decide +kernel
theorem dX4_number_104 : decode cX4_number 104 = .ok (.goto 4, 3) := by decide +kernel
theorem dX4_number_107 : decode cX4_number 107 = .ok (.iconst 0, 1) := by decide +kernel
theorem dX4_number_108 : decode cX4_number 108 = .ok (.invokevirtual 248, 3) := by decide +kernel
theorem dX4_number_111 : decode cX4_number 111 = .ok (.return_, 1) := by decide +kernel
theorem dX4_kindHere_0 : decode cX4_kindHere 0 = .ok (.aload_n 0, 1) := by decide +kernel
theorem dX4_kindHere_1 : decode cX4_kindHere 1 = .ok (.invokevirtual 252, 3) := by decide +kernel
theorem dX4_kindHere_4 : decode cX4_kindHere 4 = .ok (.lstore_n 1, 1) := by decide +kernel
theorem dX4_kindHere_5 : decode cX4_kindHere 5 = .ok (.lload_n 1, 1) := by decide +kernel
theorem dX4_kindHere_6 : decode cX4_kindHere 6 = .ok (.ldc2_w 256, 3) := by decide +kernel
theorem dX4_kindHere_9 : decode cX4_kindHere 9 = .ok (.lcmp, 1) := by decide +kernel
theorem dX4_kindHere_10 : decode cX4_kindHere 10 = .ok (.ifCond .ne 7, 3) := by decide +kernel
theorem dX4_kindHere_13 : decode cX4_kindHere 13 = .ok (.iconst 0, 1) := by decide +kernel
theorem dX4_kindHere_14 : decode cX4_kindHere 14 = .ok (.goto 64, 3) := by decide +kernel
theorem dX4_kindHere_17 : decode cX4_kindHere 17 = .ok (.lload_n 1, 1) := by decide +kernel
theorem dX4_kindHere_18 : decode cX4_kindHere 18 = .ok (.ldc2_w 258, 3) := by decide +kernel
theorem dX4_kindHere_21 : decode cX4_kindHere 21 = .ok (.lcmp, 1) := by decide +kernel
theorem dX4_kindHere_22 : decode cX4_kindHere 22 = .ok (.ifCond .ne 7, 3) := by decide +kernel
theorem dX4_kindHere_25 : decode cX4_kindHere 25 = .ok (.iconst 1, 1) := by decide +kernel
theorem dX4_kindHere_26 : decode cX4_kindHere 26 = .ok (.goto 52, 3) := by decide +kernel
theorem dX4_kindHere_29 : decode cX4_kindHere 29 = .ok (.lload_n 1, 1) := by decide +kernel
theorem dX4_kindHere_30 : decode cX4_kindHere 30 = .ok (.ldc2_w 260, 3) := by decide +kernel
theorem dX4_kindHere_33 : decode cX4_kindHere 33 = .ok (.lcmp, 1) := by decide +kernel
theorem dX4_kindHere_34 : decode cX4_kindHere 34 = .ok (.ifCond .ne 7, 3) := by decide +kernel
theorem dX4_kindHere_37 : decode cX4_kindHere 37 = .ok (.iconst 2, 1) := by decide +kernel
theorem dX4_kindHere_38 : decode cX4_kindHere 38 = .ok (.goto 40, 3) := by decide +kernel
theorem dX4_kindHere_41 : decode cX4_kindHere 41 = .ok (.lload_n 1, 1) := by decide +kernel
theorem dX4_kindHere_42 : decode cX4_kindHere 42 = .ok (.ldc2_w 262, 3) := by decide +kernel
theorem dX4_kindHere_45 : decode cX4_kindHere 45 = .ok (.lcmp, 1) := by decide +kernel
theorem dX4_kindHere_46 : decode cX4_kindHere 46 = .ok (.ifCond .ne 7, 3) := by decide +kernel
theorem dX4_kindHere_49 : decode cX4_kindHere 49 = .ok (.iconst 3, 1) := by decide +kernel
theorem dX4_kindHere_50 : decode cX4_kindHere 50 = .ok (.goto 28, 3) := by decide +kernel
theorem dX4_kindHere_53 : decode cX4_kindHere 53 = .ok (.lload_n 1, 1) := by decide +kernel
theorem dX4_kindHere_54 : decode cX4_kindHere 54 = .ok (.ldc2_w 264, 3) := by decide +kernel
theorem dX4_kindHere_57 : decode cX4_kindHere 57 = .ok (.lcmp, 1) := by decide +kernel
theorem dX4_kindHere_58 : decode cX4_kindHere 58 = .ok (.ifCond .ne 7, 3) := by decide +kernel
theorem dX4_kindHere_61 : decode cX4_kindHere 61 = .ok (.iconst 4, 1) := by decide +kernel
theorem dX4_kindHere_62 : decode cX4_kindHere 62 = .ok (.goto 16, 3) := by decide +kernel
theorem dX4_kindHere_65 : decode cX4_kindHere 65 = .ok (.lload_n 1, 1) := by decide +kernel
theorem dX4_kindHere_66 : decode cX4_kindHere 66 = .ok (.ldc2_w 266, 3) := by decide +kernel
theorem dX4_kindHere_69 : decode cX4_kindHere 69 = .ok (.lcmp, 1) := by decide +kernel
theorem dX4_kindHere_70 : decode cX4_kindHere 70 = .ok (.ifCond .ne 7, 3) := by decide +kernel
theorem dX4_kindHere_73 : decode cX4_kindHere 73 = .ok (.iconst 5, 1) := by decide +kernel
theorem dX4_kindHere_74 : decode cX4_kindHere 74 = .ok (.goto 4, 3) := by decide +kernel
theorem dX4_kindHere_77 : decode cX4_kindHere 77 = .ok (.iconst (-1), 1) := by decide +kernel
theorem dX4_kindHere_78 : decode cX4_kindHere 78 = .ok (.ireturn, 1) := by decide +kernel
theorem dX4_wantHere_0 : decode cX4_wantHere 0 = .ok (.aload_n 0, 1) := by decide +kernel
theorem dX4_wantHere_1 : decode cX4_wantHere 1 = .ok (.invokevirtual 252, 3) := by decide +kernel
theorem dX4_wantHere_4 : decode cX4_wantHere 4 = .ok (.lstore_n 1, 1) := by decide +kernel
theorem dX4_wantHere_5 : decode cX4_wantHere 5 = .ok (.lload_n 1, 1) := by decide +kernel
theorem dX4_wantHere_6 : decode cX4_wantHere 6 = .ok (.ldc2_w 268, 3) := by decide +kernel
theorem dX4_wantHere_9 : decode cX4_wantHere 9 = .ok (.lcmp, 1) := by decide +kernel
theorem dX4_wantHere_10 : decode cX4_wantHere 10 = .ok (.ifCond .ne 7, 3) := by decide +kernel
theorem dX4_wantHere_13 : decode cX4_wantHere 13 = .ok (.iconst 0, 1) := by decide +kernel
theorem dX4_wantHere_14 : decode cX4_wantHere 14 = .ok (.goto 52, 3) := by decide +kernel
theorem dX4_wantHere_17 : decode cX4_wantHere 17 = .ok (.lload_n 1, 1) := by decide +kernel
theorem dX4_wantHere_18 : decode cX4_wantHere 18 = .ok (.ldc2_w 270, 3) := by decide +kernel
theorem dX4_wantHere_21 : decode cX4_wantHere 21 = .ok (.lcmp, 1) := by decide +kernel
theorem dX4_wantHere_22 : decode cX4_wantHere 22 = .ok (.ifCond .ne 7, 3) := by decide +kernel
theorem dX4_wantHere_25 : decode cX4_wantHere 25 = .ok (.iconst 1, 1) := by decide +kernel
theorem dX4_wantHere_26 : decode cX4_wantHere 26 = .ok (.goto 40, 3) := by decide +kernel
theorem dX4_wantHere_29 : decode cX4_wantHere 29 = .ok (.lload_n 1, 1) := by decide +kernel
theorem dX4_wantHere_30 : decode cX4_wantHere 30 = .ok (.ldc2_w 272, 3) := by decide +kernel
theorem dX4_wantHere_33 : decode cX4_wantHere 33 = .ok (.lcmp, 1) := by decide +kernel
theorem dX4_wantHere_34 : decode cX4_wantHere 34 = .ok (.ifCond .ne 7, 3) := by decide +kernel
theorem dX4_wantHere_37 : decode cX4_wantHere 37 = .ok (.iconst 2, 1) := by decide +kernel
theorem dX4_wantHere_38 : decode cX4_wantHere 38 = .ok (.goto 28, 3) := by decide +kernel
theorem dX4_wantHere_41 : decode cX4_wantHere 41 = .ok (.lload_n 1, 1) := by decide +kernel
theorem dX4_wantHere_42 : decode cX4_wantHere 42 = .ok (.ldc2_w 274, 3) := by decide +kernel
theorem dX4_wantHere_45 : decode cX4_wantHere 45 = .ok (.lcmp, 1) := by decide +kernel
theorem dX4_wantHere_46 : decode cX4_wantHere 46 = .ok (.ifCond .ne 7, 3) := by decide +kernel
theorem dX4_wantHere_49 : decode cX4_wantHere 49 = .ok (.iconst 3, 1) := by decide +kernel
theorem dX4_wantHere_50 : decode cX4_wantHere 50 = .ok (.goto 16, 3) := by decide +kernel
theorem dX4_wantHere_53 : decode cX4_wantHere 53 = .ok (.lload_n 1, 1) := by decide +kernel
theorem dX4_wantHere_54 : decode cX4_wantHere 54 = .ok (.ldc2_w 276, 3) := by decide +kernel
theorem dX4_wantHere_57 : decode cX4_wantHere 57 = .ok (.lcmp, 1) := by decide +kernel
theorem dX4_wantHere_58 : decode cX4_wantHere 58 = .ok (.ifCond .ne 7, 3) := by decide +kernel
theorem dX4_wantHere_61 : decode cX4_wantHere 61 = .ok (.iconst 4, 1) := by decide +kernel
theorem dX4_wantHere_62 : decode cX4_wantHere 62 = .ok (.goto 4, 3) := by decide +kernel
theorem dX4_wantHere_65 : decode cX4_wantHere 65 = .ok (.iconst (-1), 1) := by decide +kernel
theorem dX4_wantHere_66 : decode cX4_wantHere 66 = .ok (.ireturn, 1) := by decide +kernel
theorem dX4_figureItem_0 : decode cX4_figureItem 0 = .ok (.aload_n 0, 1) := by decide +kernel
theorem dX4_figureItem_1 : decode cX4_figureItem 1 = .ok (.aload_n 0, 1) := by decide +kernel
theorem dX4_figureItem_2 : decode cX4_figureItem 2 = .ok (.getfield 7, 3) := by decide +kernel
theorem dX4_figureItem_5 : decode cX4_figureItem 5 = .ok (.iconst 1, 1) := by decide +kernel
theorem dX4_figureItem_6 : decode cX4_figureItem 6 = .ok (.iaload, 1) := by decide +kernel
theorem dX4_figureItem_7 : decode cX4_figureItem 7 = .ok (.bipush 8, 2) := by decide +kernel
theorem dX4_figureItem_9 : decode cX4_figureItem 9 = .ok (.if_icmp .ge 7, 3) := by decide +kernel
theorem dX4_figureItem_12 : decode cX4_figureItem 12 = .ok (.iconst 1, 1) := by decide +kernel
theorem dX4_figureItem_13 : decode cX4_figureItem 13 = .ok (.goto 4, 3) := by decide +kernel
theorem dX4_figureItem_16 : decode cX4_figureItem 16 = .ok (.iconst 0, 1) := by decide +kernel
theorem dX4_figureItem_17 : decode cX4_figureItem 17 = .ok (.invokevirtual 248, 3) := by decide +kernel
theorem dX4_figureItem_20 : decode cX4_figureItem 20 = .ok (.aload_n 0, 1) := by decide +kernel
theorem dX4_figureItem_21 : decode cX4_figureItem 21 = .ok (.iconst 0, 1) := by decide +kernel
theorem dX4_figureItem_22 : decode cX4_figureItem 22 = .ok (.iconst 3, 1) := by decide +kernel
theorem dX4_figureItem_23 : decode cX4_figureItem 23 = .ok (.invokevirtual 278, 3) := by decide +kernel
theorem dX4_figureItem_26 : decode cX4_figureItem 26 = .ok (.aload_n 0, 1) := by decide +kernel
theorem dX4_figureItem_27 : decode cX4_figureItem 27 = .ok (.getfield 245, 3) := by decide +kernel
theorem dX4_figureItem_30 : decode cX4_figureItem 30 = .ok (.istore_n 2, 1) := by decide +kernel
theorem dX4_figureItem_31 : decode cX4_figureItem 31 = .ok (.aload_n 0, 1) := by decide +kernel
theorem dX4_figureItem_32 : decode cX4_figureItem 32 = .ok (.iconst 0, 1) := by decide +kernel
theorem dX4_figureItem_33 : decode cX4_figureItem 33 = .ok (.bipush 19, 2) := by decide +kernel
theorem dX4_figureItem_35 : decode cX4_figureItem 35 = .ok (.invokevirtual 278, 3) := by decide +kernel
theorem dX4_figureItem_38 : decode cX4_figureItem 38 = .ok (.aload_n 0, 1) := by decide +kernel
theorem dX4_figureItem_39 : decode cX4_figureItem 39 = .ok (.getfield 234, 3) := by decide +kernel
theorem dX4_figureItem_42 : decode cX4_figureItem 42 = .ok (.ifCond .eq 4, 3) := by decide +kernel
theorem dX4_figureItem_45 : decode cX4_figureItem 45 = .ok (.return_, 1) := by decide +kernel
theorem dX4_figureItem_46 : decode cX4_figureItem 46 = .ok (.aload_n 0, 1) := by decide +kernel
theorem dX4_figureItem_47 : decode cX4_figureItem 47 = .ok (.iload_n 1, 1) := by decide +kernel
theorem dX4_figureItem_48 : decode cX4_figureItem 48 = .ok (.iload_n 2, 1) := by decide +kernel
theorem dX4_figureItem_49 : decode cX4_figureItem 49 = .ok (.aload_n 0, 1) := by decide +kernel
theorem dX4_figureItem_50 : decode cX4_figureItem 50 = .ok (.getfield 245, 3) := by decide +kernel
theorem dX4_figureItem_53 : decode cX4_figureItem 53 = .ok (.invokevirtual 124, 3) := by decide +kernel
theorem dX4_figureItem_56 : decode cX4_figureItem 56 = .ok (.istore_n 3, 1) := by decide +kernel
theorem dX4_figureItem_57 : decode cX4_figureItem 57 = .ok (.aload_n 0, 1) := by decide +kernel
theorem dX4_figureItem_58 : decode cX4_figureItem 58 = .ok (.invokevirtual 252, 3) := by decide +kernel
theorem dX4_figureItem_61 : decode cX4_figureItem 61 = .ok (.ldc2_w 282, 3) := by decide +kernel
theorem dX4_figureItem_64 : decode cX4_figureItem 64 = .ok (.lcmp, 1) := by decide +kernel
theorem dX4_figureItem_65 : decode cX4_figureItem 65 = .ok (.ifCond .ne 29, 3) := by decide +kernel
theorem dX4_figureItem_68 : decode cX4_figureItem 68 = .ok (.aload_n 0, 1) := by decide +kernel
theorem dX4_figureItem_69 : decode cX4_figureItem 69 = .ok (.iconst 1, 1) := by decide +kernel
theorem dX4_figureItem_70 : decode cX4_figureItem 70 = .ok (.invokevirtual 248, 3) := by decide +kernel
theorem dX4_figureItem_73 : decode cX4_figureItem 73 = .ok (.aload_n 0, 1) := by decide +kernel
theorem dX4_figureItem_74 : decode cX4_figureItem 74 = .ok (.iconst 0, 1) := by decide +kernel
theorem dX4_figureItem_75 : decode cX4_figureItem 75 = .ok (.bipush 99, 2) := by decide +kernel
theorem dX4_figureItem_77 : decode cX4_figureItem 77 = .ok (.invokevirtual 278, 3) := by decide +kernel
theorem dX4_figureItem_80 : decode cX4_figureItem 80 = .ok (.aload_n 0, 1) := by decide +kernel
theorem dX4_figureItem_81 : decode cX4_figureItem 81 = .ok (.getfield 7, 3) := by decide +kernel
theorem dX4_figureItem_84 : decode cX4_figureItem 84 = .ok (.iload_n 3, 1) := by decide +kernel
theorem dX4_figureItem_85 : decode cX4_figureItem 85 = .ok (.iconst 3, 1) := by decide +kernel
theorem dX4_figureItem_86 : decode cX4_figureItem 86 = .ok (.invokestatic 45, 3) := by decide +kernel
theorem dX4_figureItem_89 : decode cX4_figureItem 89 = .ok (.aload_n 0, 1) := by decide +kernel
theorem dX4_figureItem_90 : decode cX4_figureItem 90 = .ok (.getfield 245, 3) := by decide +kernel
theorem dX4_figureItem_93 : decode cX4_figureItem 93 = .ok (.iastore, 1) := by decide +kernel
theorem dX4_figureItem_94 : decode cX4_figureItem 94 = .ok (.aload_n 0, 1) := by decide +kernel
theorem dX4_figureItem_95 : decode cX4_figureItem 95 = .ok (.invokevirtual 252, 3) := by decide +kernel
theorem dX4_figureItem_98 : decode cX4_figureItem 98 = .ok (.ldc2_w 276, 3) := by decide +kernel
theorem dX4_figureItem_101 : decode cX4_figureItem 101 = .ok (.lcmp, 1) := by decide +kernel
theorem dX4_figureItem_102 : decode cX4_figureItem 102 = .ok (.ifCond .ne 19, 3) := by decide +kernel
theorem dX4_figureItem_105 : decode cX4_figureItem 105 = .ok (.aload_n 0, 1) := by decide +kernel
theorem dX4_figureItem_106 : decode cX4_figureItem 106 = .ok (.iconst 1, 1) := by decide +kernel
theorem dX4_figureItem_107 : decode cX4_figureItem 107 = .ok (.invokevirtual 248, 3) := by decide +kernel
theorem dX4_figureItem_110 : decode cX4_figureItem 110 = .ok (.aload_n 0, 1) := by decide +kernel
theorem dX4_figureItem_111 : decode cX4_figureItem 111 = .ok (.getfield 7, 3) := by decide +kernel
theorem dX4_figureItem_114 : decode cX4_figureItem 114 = .ok (.iload_n 3, 1) := by decide +kernel
theorem dX4_figureItem_115 : decode cX4_figureItem 115 = .ok (.iconst 4, 1) := by decide +kernel
theorem dX4_figureItem_116 : decode cX4_figureItem 116 = .ok (.invokestatic 45, 3) := by decide +kernel
theorem dX4_figureItem_119 : decode cX4_figureItem 119 = .ok (.iconst 1, 1) := by decide +kernel
theorem dX4_figureItem_120 : decode cX4_figureItem 120 = .ok (.iastore, 1) := by decide +kernel
theorem dX4_figureItem_121 : decode cX4_figureItem 121 = .ok (.return_, 1) := by decide +kernel
theorem dX4_wantsItem_0 : decode cX4_wantsItem 0 = .ok (.aload_n 0, 1) := by decide +kernel
theorem dX4_wantsItem_1 : decode cX4_wantsItem 1 = .ok (.iconst 1, 1) := by decide +kernel
theorem dX4_wantsItem_2 : decode cX4_wantsItem 2 = .ok (.invokevirtual 248, 3) := by decide +kernel
theorem dX4_wantsItem_5 : decode cX4_wantsItem 5 = .ok (.aload_n 0, 1) := by decide +kernel
theorem dX4_wantsItem_6 : decode cX4_wantsItem 6 = .ok (.iconst 0, 1) := by decide +kernel
theorem dX4_wantsItem_7 : decode cX4_wantsItem 7 = .ok (.aload_n 0, 1) := by decide +kernel
theorem dX4_wantsItem_8 : decode cX4_wantsItem 8 = .ok (.getfield 7, 3) := by decide +kernel
theorem dX4_wantsItem_11 : decode cX4_wantsItem 11 = .ok (.iconst 1, 1) := by decide +kernel
theorem dX4_wantsItem_12 : decode cX4_wantsItem 12 = .ok (.iaload, 1) := by decide +kernel
theorem dX4_wantsItem_13 : decode cX4_wantsItem 13 = .ok (.iconst 1, 1) := by decide +kernel
theorem dX4_wantsItem_14 : decode cX4_wantsItem 14 = .ok (.isub, 1) := by decide +kernel
theorem dX4_wantsItem_15 : decode cX4_wantsItem 15 = .ok (.invokevirtual 278, 3) := by decide +kernel
theorem dX4_wantsItem_18 : decode cX4_wantsItem 18 = .ok (.aload_n 0, 1) := by decide +kernel
theorem dX4_wantsItem_19 : decode cX4_wantsItem 19 = .ok (.getfield 245, 3) := by decide +kernel
theorem dX4_wantsItem_22 : decode cX4_wantsItem 22 = .ok (.istore_n 1, 1) := by decide +kernel
theorem dX4_wantsItem_23 : decode cX4_wantsItem 23 = .ok (.aload_n 0, 1) := by decide +kernel
theorem dX4_wantsItem_24 : decode cX4_wantsItem 24 = .ok (.invokevirtual 284, 3) := by decide +kernel
theorem dX4_wantsItem_27 : decode cX4_wantsItem 27 = .ok (.istore_n 2, 1) := by decide +kernel
theorem dX4_wantsItem_28 : decode cX4_wantsItem 28 = .ok (.aload_n 0, 1) := by decide +kernel
theorem dX4_wantsItem_29 : decode cX4_wantsItem 29 = .ok (.iload_n 2, 1) := by decide +kernel
theorem dX4_wantsItem_30 : decode cX4_wantsItem 30 = .ok (.ifCond .lt 7, 3) := by decide +kernel
theorem dX4_wantsItem_33 : decode cX4_wantsItem 33 = .ok (.iconst 1, 1) := by decide +kernel
theorem dX4_wantsItem_34 : decode cX4_wantsItem 34 = .ok (.goto 4, 3) := by decide +kernel
theorem dX4_wantsItem_37 : decode cX4_wantsItem 37 = .ok (.iconst 0, 1) := by decide +kernel
theorem dX4_wantsItem_38 : decode cX4_wantsItem 38 = .ok (.invokevirtual 248, 3) := by decide +kernel
theorem dX4_wantsItem_41 : decode cX4_wantsItem 41 = .ok (.aload_n 0, 1) := by decide +kernel
theorem dX4_wantsItem_42 : decode cX4_wantsItem 42 = .ok (.getfield 234, 3) := by decide +kernel
theorem dX4_wantsItem_45 : decode cX4_wantsItem 45 = .ok (.ifCond .eq 4, 3) := by decide +kernel
theorem dX4_wantsItem_48 : decode cX4_wantsItem 48 = .ok (.return_, 1) := by decide +kernel
theorem dX4_wantsItem_49 : decode cX4_wantsItem 49 = .ok (.aload_n 0, 1) := by decide +kernel
theorem dX4_wantsItem_50 : decode cX4_wantsItem 50 = .ok (.getfield 7, 3) := by decide +kernel
theorem dX4_wantsItem_53 : decode cX4_wantsItem 53 = .ok (.iload_n 1, 1) := by decide +kernel
theorem dX4_wantsItem_54 : decode cX4_wantsItem 54 = .ok (.iconst 5, 1) := by decide +kernel
theorem dX4_wantsItem_55 : decode cX4_wantsItem 55 = .ok (.invokestatic 45, 3) := by decide +kernel
theorem dX4_wantsItem_58 : decode cX4_wantsItem 58 = .ok (.iload_n 2, 1) := by decide +kernel
theorem dX4_wantsItem_59 : decode cX4_wantsItem 59 = .ok (.iastore, 1) := by decide +kernel
theorem dX4_wantsItem_60 : decode cX4_wantsItem 60 = .ok (.iload_n 2, 1) := by decide +kernel
theorem dX4_wantsItem_61 : decode cX4_wantsItem 61 = .ok (.iconst 1, 1) := by decide +kernel
theorem dX4_wantsItem_62 : decode cX4_wantsItem 62 = .ok (.if_icmp .eq 8, 3) := by decide +kernel
theorem dX4_wantsItem_65 : decode cX4_wantsItem 65 = .ok (.iload_n 2, 1) := by decide +kernel
theorem dX4_wantsItem_66 : decode cX4_wantsItem 66 = .ok (.iconst 2, 1) := by decide +kernel
theorem dX4_wantsItem_67 : decode cX4_wantsItem 67 = .ok (.if_icmp .ne 31, 3) := by decide +kernel
theorem dX4_wantsItem_70 : decode cX4_wantsItem 70 = .ok (.aload_n 0, 1) := by decide +kernel
theorem dX4_wantsItem_71 : decode cX4_wantsItem 71 = .ok (.iconst 0, 1) := by decide +kernel
theorem dX4_wantsItem_72 : decode cX4_wantsItem 72 = .ok (.aload_n 0, 1) := by decide +kernel
theorem dX4_wantsItem_73 : decode cX4_wantsItem 73 = .ok (.getfield 7, 3) := by decide +kernel
theorem dX4_wantsItem_76 : decode cX4_wantsItem 76 = .ok (.iconst 1, 1) := by decide +kernel
theorem dX4_wantsItem_77 : decode cX4_wantsItem 77 = .ok (.iaload, 1) := by decide +kernel
theorem dX4_wantsItem_78 : decode cX4_wantsItem 78 = .ok (.iconst 1, 1) := by decide +kernel
theorem dX4_wantsItem_79 : decode cX4_wantsItem 79 = .ok (.isub, 1) := by decide +kernel
theorem dX4_wantsItem_80 : decode cX4_wantsItem 80 = .ok (.invokevirtual 278, 3) := by decide +kernel
theorem dX4_wantsItem_83 : decode cX4_wantsItem 83 = .ok (.aload_n 0, 1) := by decide +kernel
theorem dX4_wantsItem_84 : decode cX4_wantsItem 84 = .ok (.getfield 7, 3) := by decide +kernel
theorem dX4_wantsItem_87 : decode cX4_wantsItem 87 = .ok (.iload_n 1, 1) := by decide +kernel
theorem dX4_wantsItem_88 : decode cX4_wantsItem 88 = .ok (.bipush 6, 2) := by decide +kernel
theorem dX4_wantsItem_90 : decode cX4_wantsItem 90 = .ok (.invokestatic 45, 3) := by decide +kernel
theorem dX4_wantsItem_93 : decode cX4_wantsItem 93 = .ok (.aload_n 0, 1) := by decide +kernel
theorem dX4_wantsItem_94 : decode cX4_wantsItem 94 = .ok (.getfield 245, 3) := by decide +kernel
theorem dX4_wantsItem_97 : decode cX4_wantsItem 97 = .ok (.iastore, 1) := by decide +kernel
theorem dX4_wantsItem_98 : decode cX4_wantsItem 98 = .ok (.return_, 1) := by decide +kernel
theorem dX4_outItem_0 : decode cX4_outItem 0 = .ok (.aload_n 0, 1) := by decide +kernel
theorem dX4_outItem_1 : decode cX4_outItem 1 = .ok (.iconst 1, 1) := by decide +kernel
theorem dX4_outItem_2 : decode cX4_outItem 2 = .ok (.invokevirtual 248, 3) := by decide +kernel
theorem dX4_outItem_5 : decode cX4_outItem 5 = .ok (.aload_n 0, 1) := by decide +kernel
theorem dX4_outItem_6 : decode cX4_outItem 6 = .ok (.iconst 0, 1) := by decide +kernel
theorem dX4_outItem_7 : decode cX4_outItem 7 = .ok (.aload_n 0, 1) := by decide +kernel
theorem dX4_outItem_8 : decode cX4_outItem 8 = .ok (.getfield 7, 3) := by decide +kernel
theorem dX4_outItem_11 : decode cX4_outItem 11 = .ok (.iconst 1, 1) := by decide +kernel
theorem dX4_outItem_12 : decode cX4_outItem 12 = .ok (.iaload, 1) := by decide +kernel
theorem dX4_outItem_13 : decode cX4_outItem 13 = .ok (.iconst 1, 1) := by decide +kernel
theorem dX4_outItem_14 : decode cX4_outItem 14 = .ok (.isub, 1) := by decide +kernel
theorem dX4_outItem_15 : decode cX4_outItem 15 = .ok (.invokevirtual 278, 3) := by decide +kernel
theorem dX4_outItem_18 : decode cX4_outItem 18 = .ok (.aload_n 0, 1) := by decide +kernel
theorem dX4_outItem_19 : decode cX4_outItem 19 = .ok (.getfield 234, 3) := by decide +kernel
theorem dX4_outItem_22 : decode cX4_outItem 22 = .ok (.ifCond .ne 18, 3) := by decide +kernel
theorem dX4_outItem_25 : decode cX4_outItem 25 = .ok (.aload_n 0, 1) := by decide +kernel
theorem dX4_outItem_26 : decode cX4_outItem 26 = .ok (.getfield 7, 3) := by decide +kernel
theorem dX4_outItem_29 : decode cX4_outItem 29 = .ok (.aload_n 0, 1) := by decide +kernel
theorem dX4_outItem_30 : decode cX4_outItem 30 = .ok (.getfield 245, 3) := by decide +kernel
theorem dX4_outItem_33 : decode cX4_outItem 33 = .ok (.bipush 7, 2) := by decide +kernel
theorem dX4_outItem_35 : decode cX4_outItem 35 = .ok (.invokestatic 45, 3) := by decide +kernel
theorem dX4_outItem_38 : decode cX4_outItem 38 = .ok (.iload_n 1, 1) := by decide +kernel
theorem dX4_outItem_39 : decode cX4_outItem 39 = .ok (.iastore, 1) := by decide +kernel
theorem dX4_outItem_40 : decode cX4_outItem 40 = .ok (.return_, 1) := by decide +kernel
theorem dX4_tackyItem_0 : decode cX4_tackyItem 0 = .ok (.aload_n 0, 1) := by decide +kernel
theorem dX4_tackyItem_1 : decode cX4_tackyItem 1 = .ok (.iconst 1, 1) := by decide +kernel
theorem dX4_tackyItem_2 : decode cX4_tackyItem 2 = .ok (.invokevirtual 248, 3) := by decide +kernel
theorem dX4_tackyItem_5 : decode cX4_tackyItem 5 = .ok (.aload_n 0, 1) := by decide +kernel
theorem dX4_tackyItem_6 : decode cX4_tackyItem 6 = .ok (.iconst 0, 1) := by decide +kernel
theorem dX4_tackyItem_7 : decode cX4_tackyItem 7 = .ok (.bipush 8, 2) := by decide +kernel
theorem dX4_tackyItem_9 : decode cX4_tackyItem 9 = .ok (.invokevirtual 278, 3) := by decide +kernel
theorem dX4_tackyItem_12 : decode cX4_tackyItem 12 = .ok (.aload_n 0, 1) := by decide +kernel
theorem dX4_tackyItem_13 : decode cX4_tackyItem 13 = .ok (.getfield 7, 3) := by decide +kernel
theorem dX4_tackyItem_16 : decode cX4_tackyItem 16 = .ok (.iconst 2, 1) := by decide +kernel
theorem dX4_tackyItem_17 : decode cX4_tackyItem 17 = .ok (.aload_n 0, 1) := by decide +kernel
theorem dX4_tackyItem_18 : decode cX4_tackyItem 18 = .ok (.getfield 234, 3) := by decide +kernel
theorem dX4_tackyItem_21 : decode cX4_tackyItem 21 = .ok (.ifCond .eq 12, 3) := by decide +kernel
theorem dX4_tackyItem_24 : decode cX4_tackyItem 24 = .ok (.aload_n 0, 1) := by decide +kernel
theorem dX4_tackyItem_25 : decode cX4_tackyItem 25 = .ok (.getfield 7, 3) := by decide +kernel
theorem dX4_tackyItem_28 : decode cX4_tackyItem 28 = .ok (.iconst 2, 1) := by decide +kernel
theorem dX4_tackyItem_29 : decode cX4_tackyItem 29 = .ok (.iaload, 1) := by decide +kernel
theorem dX4_tackyItem_30 : decode cX4_tackyItem 30 = .ok (.goto 7, 3) := by decide +kernel
theorem dX4_tackyItem_33 : decode cX4_tackyItem 33 = .ok (.aload_n 0, 1) := by decide +kernel
theorem dX4_tackyItem_34 : decode cX4_tackyItem 34 = .ok (.getfield 245, 3) := by decide +kernel
theorem dX4_tackyItem_37 : decode cX4_tackyItem 37 = .ok (.iastore, 1) := by decide +kernel
theorem dX4_tackyItem_38 : decode cX4_tackyItem 38 = .ok (.return_, 1) := by decide +kernel
theorem dX4_item_0 : decode cX4_item 0 = .ok (.aload_n 0, 1) := by decide +kernel
theorem dX4_item_1 : decode cX4_item 1 = .ok (.invokevirtual 287, 3) := by decide +kernel
theorem dX4_item_4 : decode cX4_item 4 = .ok (.istore_n 1, 1) := by decide +kernel
theorem dX4_item_5 : decode cX4_item 5 = .ok (.aload_n 0, 1) := by decide +kernel
theorem dX4_item_6 : decode cX4_item 6 = .ok (.invokevirtual 252, 3) := by decide +kernel
theorem dX4_item_9 : decode cX4_item 9 = .ok (.lstore_n 2, 1) := by decide +kernel
theorem dX4_item_10 : decode cX4_item 10 = .ok (.iload_n 1, 1) := by decide +kernel
theorem dX4_item_11 : decode cX4_item 11 = .ok (.ifCond .lt 11, 3) := by decide +kernel
theorem dX4_item_14 : decode cX4_item 14 = .ok (.aload_n 0, 1) := by decide +kernel
theorem dX4_item_15 : decode cX4_item 15 = .ok (.iload_n 1, 1) := by decide +kernel
theorem dX4_item_16 : decode cX4_item 16 = .ok (.invokevirtual 290, 3) := by decide +kernel
theorem dX4_item_19 : decode cX4_item 19 = .ok (.goto 74, 3) := by decide +kernel
theorem dX4_item_22 : decode cX4_item 22 = .ok (.lload_n 2, 1) := by decide +kernel
theorem dX4_item_23 : decode cX4_item 23 = .ok (.ldc2_w 293, 3) := by decide +kernel
theorem dX4_item_26 : decode cX4_item 26 = .ok (.lcmp, 1) := by decide +kernel
theorem dX4_item_27 : decode cX4_item 27 = .ok (.ifCond .ne 10, 3) := by decide +kernel
theorem dX4_item_30 : decode cX4_item 30 = .ok (.aload_n 0, 1) := by decide +kernel
theorem dX4_item_31 : decode cX4_item 31 = .ok (.invokevirtual 295, 3) := by decide +kernel
theorem dX4_item_34 : decode cX4_item 34 = .ok (.goto 59, 3) := by decide +kernel
theorem dX4_item_37 : decode cX4_item 37 = .ok (.lload_n 2, 1) := by decide +kernel
theorem dX4_item_38 : decode cX4_item 38 = .ok (.ldc2_w 298, 3) := by decide +kernel
theorem dX4_item_41 : decode cX4_item 41 = .ok (.lcmp, 1) := by decide +kernel
theorem dX4_item_42 : decode cX4_item 42 = .ok (.ifCond .eq 11, 3) := by decide +kernel
theorem dX4_item_45 : decode cX4_item 45 = .ok (.lload_n 2, 1) := by decide +kernel
theorem dX4_item_46 : decode cX4_item 46 = .ok (.ldc2_w 300, 3) := by decide +kernel
theorem dX4_item_49 : decode cX4_item 49 = .ok (.lcmp, 1) := by decide +kernel
theorem dX4_item_50 : decode cX4_item 50 = .ok (.ifCond .ne 23, 3) := by decide +kernel
theorem dX4_item_53 : decode cX4_item 53 = .ok (.aload_n 0, 1) := by decide +kernel
theorem dX4_item_54 : decode cX4_item 54 = .ok (.lload_n 2, 1) := by decide +kernel
theorem dX4_item_55 : decode cX4_item 55 = .ok (.ldc2_w 298, 3) := by decide +kernel
theorem dX4_item_58 : decode cX4_item 58 = .ok (.lcmp, 1) := by decide +kernel
theorem dX4_item_59 : decode cX4_item 59 = .ok (.ifCond .ne 7, 3) := by decide +kernel
theorem dX4_item_62 : decode cX4_item 62 = .ok (.iconst 1, 1) := by decide +kernel
theorem dX4_item_63 : decode cX4_item 63 = .ok (.goto 4, 3) := by decide +kernel
theorem dX4_item_66 : decode cX4_item 66 = .ok (.iconst 0, 1) := by decide +kernel
theorem dX4_item_67 : decode cX4_item 67 = .ok (.invokevirtual 302, 3) := by decide +kernel
theorem dX4_item_70 : decode cX4_item 70 = .ok (.goto 23, 3) := by decide +kernel
theorem dX4_item_73 : decode cX4_item 73 = .ok (.lload_n 2, 1) := by decide +kernel
theorem dX4_item_74 : decode cX4_item 74 = .ok (.ldc2_w 305, 3) := by decide +kernel
theorem dX4_item_77 : decode cX4_item 77 = .ok (.lcmp, 1) := by decide +kernel
theorem dX4_item_78 : decode cX4_item 78 = .ok (.ifCond .ne 10, 3) := by decide +kernel
theorem dX4_item_81 : decode cX4_item 81 = .ok (.aload_n 0, 1) := by decide +kernel
theorem dX4_item_82 : decode cX4_item 82 = .ok (.invokevirtual 307, 3) := by decide +kernel
theorem dX4_item_85 : decode cX4_item 85 = .ok (.goto 8, 3) := by decide +kernel
theorem dX4_item_88 : decode cX4_item 88 = .ok (.aload_n 0, 1) := by decide +kernel
theorem dX4_item_89 : decode cX4_item 89 = .ok (.iconst 0, 1) := by decide +kernel
theorem dX4_item_90 : decode cX4_item 90 = .ok (.invokevirtual 248, 3) := by decide +kernel
theorem dX4_item_93 : decode cX4_item 93 = .ok (.return_, 1) := by decide +kernel
theorem dX4_night_0 : decode cX4_night 0 = .ok (.aload_n 0, 1) := by decide +kernel
theorem dX4_night_1 : decode cX4_night 1 = .ok (.invokevirtual 310, 3) := by decide +kernel
theorem dX4_night_4 : decode cX4_night 4 = .ok (.aload_n 0, 1) := by decide +kernel
theorem dX4_night_5 : decode cX4_night 5 = .ok (.iconst 0, 1) := by decide +kernel
theorem dX4_night_6 : decode cX4_night 6 = .ok (.putfield 234, 3) := by decide +kernel
theorem dX4_night_9 : decode cX4_night 9 = .ok (.aload_n 0, 1) := by decide +kernel
theorem dX4_night_10 : decode cX4_night 10 = .ok (.iconst 0, 1) := by decide +kernel
theorem dX4_night_11 : decode cX4_night 11 = .ok (.putfield 219, 3) := by decide +kernel
theorem dX4_night_14 : decode cX4_night 14 = .ok (.aload_n 0, 1) := by decide +kernel
theorem dX4_night_15 : decode cX4_night 15 = .ok (.invokevirtual 238, 3) := by decide +kernel
theorem dX4_night_18 : decode cX4_night 18 = .ok (.iconst 1, 1) := by decide +kernel
theorem dX4_night_19 : decode cX4_night 19 = .ok (.istore_n 1, 1) := by decide +kernel
theorem dX4_night_20 : decode cX4_night 20 = .ok (.aload_n 0, 1) := by decide +kernel
theorem dX4_night_21 : decode cX4_night 21 = .ok (.invokevirtual 313, 3) := by decide +kernel
theorem dX4_night_24 : decode cX4_night 24 = .ok (.aload_n 0, 1) := by decide +kernel
theorem dX4_night_25 : decode cX4_night 25 = .ok (.getfield 234, 3) := by decide +kernel
theorem dX4_night_28 : decode cX4_night 28 = .ok (.ifCond .ne 31, 3) := by decide +kernel
theorem dX4_night_31 : decode cX4_night 31 = .ok (.aload_n 0, 1) := by decide +kernel
theorem dX4_night_32 : decode cX4_night 32 = .ok (.aload_n 0, 1) := by decide +kernel
theorem dX4_night_33 : decode cX4_night 33 = .ok (.getfield 222, 3) := by decide +kernel
theorem dX4_night_36 : decode cX4_night 36 = .ok (.invokevirtual 225, 3) := by decide +kernel
theorem dX4_night_39 : decode cX4_night 39 = .ok (.bipush 59, 2) := by decide +kernel
theorem dX4_night_41 : decode cX4_night 41 = .ok (.if_icmp .ne 18, 3) := by decide +kernel
theorem dX4_night_44 : decode cX4_night 44 = .ok (.aload_n 0, 1) := by decide +kernel
theorem dX4_night_45 : decode cX4_night 45 = .ok (.iconst 1, 1) := by decide +kernel
theorem dX4_night_46 : decode cX4_night 46 = .ok (.invokevirtual 248, 3) := by decide +kernel
theorem dX4_night_49 : decode cX4_night 49 = .ok (.aload_n 0, 1) := by decide +kernel
theorem dX4_night_50 : decode cX4_night 50 = .ok (.invokevirtual 313, 3) := by decide +kernel
theorem dX4_night_53 : decode cX4_night 53 = .ok (.iinc 1 1, 3) := by decide +kernel
theorem dX4_night_56 : decode cX4_night 56 = .ok (.goto (-32), 3) := by decide +kernel
theorem dX4_night_59 : decode cX4_night 59 = .ok (.aload_n 0, 1) := by decide +kernel
theorem dX4_night_60 : decode cX4_night 60 = .ok (.aload_n 0, 1) := by decide +kernel
theorem dX4_night_61 : decode cX4_night 61 = .ok (.getfield 234, 3) := by decide +kernel
theorem dX4_night_64 : decode cX4_night 64 = .ok (.ifCond .ne 14, 3) := by decide +kernel
theorem dX4_night_67 : decode cX4_night 67 = .ok (.aload_n 0, 1) := by decide +kernel
theorem dX4_night_68 : decode cX4_night 68 = .ok (.getfield 222, 3) := by decide +kernel
theorem dX4_night_71 : decode cX4_night 71 = .ok (.aload_n 0, 1) := by decide +kernel
theorem dX4_night_72 : decode cX4_night 72 = .ok (.getfield 207, 3) := by decide +kernel
theorem dX4_night_75 : decode cX4_night 75 = .ok (.if_icmp .ge 7, 3) := by decide +kernel
theorem dX4_night_78 : decode cX4_night 78 = .ok (.iconst 1, 1) := by decide +kernel
theorem dX4_night_79 : decode cX4_night 79 = .ok (.goto 4, 3) := by decide +kernel
theorem dX4_night_82 : decode cX4_night 82 = .ok (.iconst 0, 1) := by decide +kernel
theorem dX4_night_83 : decode cX4_night 83 = .ok (.putfield 234, 3) := by decide +kernel
theorem dX4_night_86 : decode cX4_night 86 = .ok (.aload_n 0, 1) := by decide +kernel
theorem dX4_night_87 : decode cX4_night 87 = .ok (.getfield 234, 3) := by decide +kernel
theorem dX4_night_90 : decode cX4_night 90 = .ok (.ifCond .eq 7, 3) := by decide +kernel
theorem dX4_night_93 : decode cX4_night 93 = .ok (.aload_n 0, 1) := by decide +kernel
theorem dX4_night_94 : decode cX4_night 94 = .ok (.invokevirtual 316, 3) := by decide +kernel
theorem dX4_night_97 : decode cX4_night 97 = .ok (.aload_n 0, 1) := by decide +kernel
theorem dX4_night_98 : decode cX4_night 98 = .ok (.iconst 0, 1) := by decide +kernel
theorem dX4_night_99 : decode cX4_night 99 = .ok (.putfield 207, 3) := by decide +kernel
theorem dX4_night_102 : decode cX4_night 102 = .ok (.aload_n 0, 1) := by decide +kernel
theorem dX4_night_103 : decode cX4_night 103 = .ok (.getfield 234, 3) := by decide +kernel
theorem dX4_night_106 : decode cX4_night 106 = .ok (.ifCond .eq 12, 3) := by decide +kernel
theorem dX4_night_109 : decode cX4_night 109 = .ok (.iconst (-1), 1) := by decide +kernel
theorem dX4_night_110 : decode cX4_night 110 = .ok (.aload_n 0, 1) := by decide +kernel
theorem dX4_night_111 : decode cX4_night 111 = .ok (.getfield 222, 3) := by decide +kernel
theorem dX4_night_114 : decode cX4_night 114 = .ok (.isub, 1) := by decide +kernel
theorem dX4_night_115 : decode cX4_night 115 = .ok (.goto 4, 3) := by decide +kernel
theorem dX4_night_118 : decode cX4_night 118 = .ok (.iload_n 1, 1) := by decide +kernel
theorem dX4_night_119 : decode cX4_night 119 = .ok (.ireturn, 1) := by decide +kernel
theorem dX4_isOne_0 : decode cX4_isOne 0 = .ok (.iload_n 0, 1) := by decide +kernel
theorem dX4_isOne_1 : decode cX4_isOne 1 = .ok (.i2l, 1) := by decide +kernel
theorem dX4_isOne_2 : decode cX4_isOne 2 = .ok (.lconst 0, 1) := by decide +kernel
theorem dX4_isOne_3 : decode cX4_isOne 3 = .ok (.ldc2_w 116, 3) := by decide +kernel
theorem dX4_isOne_6 : decode cX4_isOne 6 = .ok (.invokestatic 49, 3) := by decide +kernel
theorem dX4_isOne_9 : decode cX4_isOne 9 = .ok (.ireturn, 1) := by decide +kernel
theorem dX4_sheet_0 : decode cX4_sheet 0 = .ok (.iload_n 1, 1) := by decide +kernel
theorem dX4_sheet_1 : decode cX4_sheet 1 = .ok (.invokestatic 319, 3) := by decide +kernel
theorem dX4_sheet_4 : decode cX4_sheet 4 = .ok (.ifCond .eq 25, 3) := by decide +kernel
theorem dX4_sheet_7 : decode cX4_sheet 7 = .ok (.iload_n 2, 1) := by decide +kernel
theorem dX4_sheet_8 : decode cX4_sheet 8 = .ok (.ifCond .eq 28, 3) := by decide +kernel
theorem dX4_sheet_11 : decode cX4_sheet 11 = .ok (.iload_n 2, 1) := by decide +kernel
theorem dX4_sheet_12 : decode cX4_sheet 12 = .ok (.bipush 8, 2) := by decide +kernel
theorem dX4_sheet_14 : decode cX4_sheet 14 = .ok (.if_icmp .eq 22, 3) := by decide +kernel
theorem dX4_sheet_17 : decode cX4_sheet 17 = .ok (.iload_n 2, 1) := by decide +kernel
theorem dX4_sheet_18 : decode cX4_sheet 18 = .ok (.bipush 16, 2) := by decide +kernel
theorem dX4_sheet_20 : decode cX4_sheet 20 = .ok (.if_icmp .eq 16, 3) := by decide +kernel
theorem dX4_sheet_23 : decode cX4_sheet 23 = .ok (.iload_n 2, 1) := by decide +kernel
theorem dX4_sheet_24 : decode cX4_sheet 24 = .ok (.bipush 64, 2) := by decide +kernel
theorem dX4_sheet_26 : decode cX4_sheet 26 = .ok (.if_icmp .eq 10, 3) := by decide +kernel
theorem dX4_sheet_29 : decode cX4_sheet 29 = .ok (.aload_n 0, 1) := by decide +kernel
theorem dX4_sheet_30 : decode cX4_sheet 30 = .ok (.ldc 44, 2) := by decide +kernel
theorem dX4_sheet_32 : decode cX4_sheet 32 = .ok (.invokevirtual 63, 3) := by decide +kernel
theorem dX4_sheet_35 : decode cX4_sheet 35 = .ok (.ireturn, 1) := by decide +kernel
theorem dX4_sheet_36 : decode cX4_sheet 36 = .ok (.iload_n 3, 1) := by decide +kernel
theorem dX4_sheet_37 : decode cX4_sheet 37 = .ok (.ifCond .ge 11, 3) := by decide +kernel
theorem dX4_sheet_40 : decode cX4_sheet 40 = .ok (.aload_n 0, 1) := by decide +kernel
theorem dX4_sheet_41 : decode cX4_sheet 41 = .ok (.ldc_w 322, 3) := by decide +kernel
theorem dX4_sheet_44 : decode cX4_sheet 44 = .ok (.invokevirtual 63, 3) := by decide +kernel
theorem dX4_sheet_47 : decode cX4_sheet 47 = .ok (.ireturn, 1) := by decide +kernel
theorem dX4_sheet_48 : decode cX4_sheet 48 = .ok (.iload_n 3, 1) := by decide +kernel
theorem dX4_sheet_49 : decode cX4_sheet 49 = .ok (.bipush 40, 2) := by decide +kernel
theorem dX4_sheet_51 : decode cX4_sheet 51 = .ok (.if_icmp .le 10, 3) := by decide +kernel
theorem dX4_sheet_54 : decode cX4_sheet 54 = .ok (.aload_n 0, 1) := by decide +kernel
theorem dX4_sheet_55 : decode cX4_sheet 55 = .ok (.ldc 44, 2) := by decide +kernel
theorem dX4_sheet_57 : decode cX4_sheet 57 = .ok (.invokevirtual 63, 3) := by decide +kernel
theorem dX4_sheet_60 : decode cX4_sheet 60 = .ok (.ireturn, 1) := by decide +kernel
theorem dX4_sheet_61 : decode cX4_sheet 61 = .ok (.aload_n 0, 1) := by decide +kernel
theorem dX4_sheet_62 : decode cX4_sheet 62 = .ok (.getfield 31, 3) := by decide +kernel
theorem dX4_sheet_65 : decode cX4_sheet 65 = .ok (.iload_n 1, 1) := by decide +kernel
theorem dX4_sheet_66 : decode cX4_sheet 66 = .ok (.iload_n 2, 1) := by decide +kernel
theorem dX4_sheet_67 : decode cX4_sheet 67 = .ok (.iastore, 1) := by decide +kernel
theorem dX4_sheet_68 : decode cX4_sheet 68 = .ok (.aload_n 0, 1) := by decide +kernel
theorem dX4_sheet_69 : decode cX4_sheet 69 = .ok (.getfield 34, 3) := by decide +kernel
theorem dX4_sheet_72 : decode cX4_sheet 72 = .ok (.iload_n 1, 1) := by decide +kernel
theorem dX4_sheet_73 : decode cX4_sheet 73 = .ok (.iload_n 2, 1) := by decide +kernel
theorem dX4_sheet_74 : decode cX4_sheet 74 = .ok (.ifCond .ne 7, 3) := by decide +kernel
theorem dX4_sheet_77 : decode cX4_sheet 77 = .ok (.iconst 0, 1) := by decide +kernel
theorem dX4_sheet_78 : decode cX4_sheet 78 = .ok (.goto 4, 3) := by decide +kernel
theorem dX4_sheet_81 : decode cX4_sheet 81 = .ok (.iload_n 3, 1) := by decide +kernel
theorem dX4_sheet_82 : decode cX4_sheet 82 = .ok (.iastore, 1) := by decide +kernel
theorem dX4_sheet_83 : decode cX4_sheet 83 = .ok (.iconst 0, 1) := by decide +kernel
theorem dX4_sheet_84 : decode cX4_sheet 84 = .ok (.istore 4, 2) := by decide +kernel
theorem dX4_sheet_86 : decode cX4_sheet 86 = .ok (.iload 4, 2) := by decide +kernel
theorem dX4_sheet_88 : decode cX4_sheet 88 = .ok (.bipush 40, 2) := by decide +kernel
theorem dX4_sheet_90 : decode cX4_sheet 90 = .ok (.if_icmp .ge 22, 3) := by decide +kernel
theorem dX4_sheet_93 : decode cX4_sheet 93 = .ok (.aload_n 0, 1) := by decide +kernel
theorem dX4_sheet_94 : decode cX4_sheet 94 = .ok (.getfield 37, 3) := by decide +kernel
theorem dX4_sheet_97 : decode cX4_sheet 97 = .ok (.bipush 40, 2) := by decide +kernel
theorem dX4_sheet_99 : decode cX4_sheet 99 = .ok (.iload_n 1, 1) := by decide +kernel
theorem dX4_sheet_100 : decode cX4_sheet 100 = .ok (.imul, 1) := by decide +kernel
theorem dX4_sheet_101 : decode cX4_sheet 101 = .ok (.iload 4, 2) := by decide +kernel
theorem dX4_sheet_103 : decode cX4_sheet 103 = .ok (.iadd, 1) := by decide +kernel
theorem dX4_sheet_104 : decode cX4_sheet 104 = .ok (.lconst 0, 1) := by decide +kernel
theorem dX4_sheet_105 : decode cX4_sheet 105 = .ok (.lastore, 1) := by decide +kernel
theorem dX4_sheet_106 : decode cX4_sheet 106 = .ok (.iinc 4 1, 3) := by decide +kernel
theorem dX4_sheet_109 : decode cX4_sheet 109 = .ok (.goto (-23), 3) := by decide +kernel
theorem dX4_sheet_112 : decode cX4_sheet 112 = .ok (.aload_n 0, 1) := by decide +kernel
theorem dX4_sheet_113 : decode cX4_sheet 113 = .ok (.getfield 34, 3) := by decide +kernel
theorem dX4_sheet_116 : decode cX4_sheet 116 = .ok (.iload_n 1, 1) := by decide +kernel
theorem dX4_sheet_117 : decode cX4_sheet 117 = .ok (.iaload, 1) := by decide +kernel
theorem dX4_sheet_118 : decode cX4_sheet 118 = .ok (.ireturn, 1) := by decide +kernel
theorem dX4_narrowed_0 : decode cX4_narrowed 0 = .ok (.iload_n 0, 1) := by decide +kernel
theorem dX4_narrowed_1 : decode cX4_narrowed 1 = .ok (.bipush 8, 2) := by decide +kernel
theorem dX4_narrowed_3 : decode cX4_narrowed 3 = .ok (.if_icmp .ne 10, 3) := by decide +kernel
theorem dX4_narrowed_6 : decode cX4_narrowed 6 = .ok (.lload_n 1, 1) := by decide +kernel
theorem dX4_narrowed_7 : decode cX4_narrowed 7 = .ok (.l2i, 1) := by decide +kernel
theorem dX4_narrowed_8 : decode cX4_narrowed 8 = .ok (.i2b, 1) := by decide +kernel
theorem dX4_narrowed_9 : decode cX4_narrowed 9 = .ok (.i2l, 1) := by decide +kernel
theorem dX4_narrowed_10 : decode cX4_narrowed 10 = .ok (.goto 17, 3) := by decide +kernel
theorem dX4_narrowed_13 : decode cX4_narrowed 13 = .ok (.iload_n 0, 1) := by decide +kernel
theorem dX4_narrowed_14 : decode cX4_narrowed 14 = .ok (.bipush 16, 2) := by decide +kernel
theorem dX4_narrowed_16 : decode cX4_narrowed 16 = .ok (.if_icmp .ne 10, 3) := by decide +kernel
theorem dX4_narrowed_19 : decode cX4_narrowed 19 = .ok (.lload_n 1, 1) := by decide +kernel
theorem dX4_narrowed_20 : decode cX4_narrowed 20 = .ok (.l2i, 1) := by decide +kernel
theorem dX4_narrowed_21 : decode cX4_narrowed 21 = .ok (.i2s, 1) := by decide +kernel
theorem dX4_narrowed_22 : decode cX4_narrowed 22 = .ok (.i2l, 1) := by decide +kernel
theorem dX4_narrowed_23 : decode cX4_narrowed 23 = .ok (.goto 4, 3) := by decide +kernel
theorem dX4_narrowed_26 : decode cX4_narrowed 26 = .ok (.lload_n 1, 1) := by decide +kernel
theorem dX4_narrowed_27 : decode cX4_narrowed 27 = .ok (.lreturn, 1) := by decide +kernel
theorem dX4_wrongSheet_0 : decode cX4_wrongSheet 0 = .ok (.iload_n 1, 1) := by decide +kernel
theorem dX4_wrongSheet_1 : decode cX4_wrongSheet 1 = .ok (.invokestatic 319, 3) := by decide +kernel
theorem dX4_wrongSheet_4 : decode cX4_wrongSheet 4 = .ok (.ifCond .ne 8, 3) := by decide +kernel
theorem dX4_wrongSheet_7 : decode cX4_wrongSheet 7 = .ok (.ldc 44, 2) := by decide +kernel
theorem dX4_wrongSheet_9 : decode cX4_wrongSheet 9 = .ok (.goto 19, 3) := by decide +kernel
theorem dX4_wrongSheet_12 : decode cX4_wrongSheet 12 = .ok (.aload_n 0, 1) := by decide +kernel
theorem dX4_wrongSheet_13 : decode cX4_wrongSheet 13 = .ok (.getfield 31, 3) := by decide +kernel
theorem dX4_wrongSheet_16 : decode cX4_wrongSheet 16 = .ok (.iload_n 1, 1) := by decide +kernel
theorem dX4_wrongSheet_17 : decode cX4_wrongSheet 17 = .ok (.iaload, 1) := by decide +kernel
theorem dX4_wrongSheet_18 : decode cX4_wrongSheet 18 = .ok (.ifCond .ne 9, 3) := by decide +kernel
theorem dX4_wrongSheet_21 : decode cX4_wrongSheet 21 = .ok (.ldc_w 323, 3) := by decide +kernel
theorem dX4_wrongSheet_24 : decode cX4_wrongSheet 24 = .ok (.goto 4, 3) := by decide +kernel
theorem dX4_wrongSheet_27 : decode cX4_wrongSheet 27 = .ok (.iconst 0, 1) := by decide +kernel
theorem dX4_wrongSheet_28 : decode cX4_wrongSheet 28 = .ok (.ireturn, 1) := by decide +kernel
theorem dX4_write_0 : decode cX4_write 0 = .ok (.aload_n 0, 1) := by decide +kernel
theorem dX4_write_1 : decode cX4_write 1 = .ok (.iload_n 1, 1) := by decide +kernel
theorem dX4_write_2 : decode cX4_write 2 = .ok (.invokevirtual 324, 3) := by decide +kernel
theorem dX4_write_5 : decode cX4_write 5 = .ok (.istore 5, 2) := by decide +kernel
theorem dX4_write_7 : decode cX4_write 7 = .ok (.iload 5, 2) := by decide +kernel
theorem dX4_write_9 : decode cX4_write 9 = .ok (.ifCond .eq 11, 3) := by decide +kernel
theorem dX4_write_12 : decode cX4_write 12 = .ok (.aload_n 0, 1) := by decide +kernel
theorem dX4_write_13 : decode cX4_write 13 = .ok (.iload 5, 2) := by decide +kernel
theorem dX4_write_15 : decode cX4_write 15 = .ok (.invokevirtual 63, 3) := by decide +kernel
theorem dX4_write_18 : decode cX4_write 18 = .ok (.i2l, 1) := by decide +kernel
theorem dX4_write_19 : decode cX4_write 19 = .ok (.lreturn, 1) := by decide +kernel
theorem dX4_write_20 : decode cX4_write 20 = .ok (.iload_n 2, 1) := by decide +kernel
theorem dX4_write_21 : decode cX4_write 21 = .ok (.i2l, 1) := by decide +kernel
theorem dX4_write_22 : decode cX4_write 22 = .ok (.lconst 0, 1) := by decide +kernel
theorem dX4_write_23 : decode cX4_write 23 = .ok (.aload_n 0, 1) := by decide +kernel
theorem dX4_write_24 : decode cX4_write 24 = .ok (.getfield 34, 3) := by decide +kernel
theorem dX4_write_27 : decode cX4_write 27 = .ok (.iload_n 1, 1) := by decide +kernel
theorem dX4_write_28 : decode cX4_write 28 = .ok (.iaload, 1) := by decide +kernel
theorem dX4_write_29 : decode cX4_write 29 = .ok (.iconst 1, 1) := by decide +kernel
theorem dX4_write_30 : decode cX4_write 30 = .ok (.isub, 1) := by decide +kernel
theorem dX4_write_31 : decode cX4_write 31 = .ok (.i2l, 1) := by decide +kernel
theorem dX4_write_32 : decode cX4_write 32 = .ok (.invokestatic 49, 3) := by decide +kernel
theorem dX4_write_35 : decode cX4_write 35 = .ok (.ifCond .ne 11, 3) := by decide +kernel
theorem dX4_write_38 : decode cX4_write 38 = .ok (.aload_n 0, 1) := by decide +kernel
theorem dX4_write_39 : decode cX4_write 39 = .ok (.ldc 44, 2) := by decide +kernel
theorem dX4_write_41 : decode cX4_write 41 = .ok (.invokevirtual 63, 3) := by decide +kernel
theorem dX4_write_44 : decode cX4_write 44 = .ok (.i2l, 1) := by decide +kernel
theorem dX4_write_45 : decode cX4_write 45 = .ok (.lreturn, 1) := by decide +kernel
theorem dX4_write_46 : decode cX4_write 46 = .ok (.aload_n 0, 1) := by decide +kernel
theorem dX4_write_47 : decode cX4_write 47 = .ok (.getfield 37, 3) := by decide +kernel
theorem dX4_write_50 : decode cX4_write 50 = .ok (.bipush 40, 2) := by decide +kernel
theorem dX4_write_52 : decode cX4_write 52 = .ok (.iload_n 1, 1) := by decide +kernel
theorem dX4_write_53 : decode cX4_write 53 = .ok (.imul, 1) := by decide +kernel
theorem dX4_write_54 : decode cX4_write 54 = .ok (.iload_n 2, 1) := by decide +kernel
theorem dX4_write_55 : decode cX4_write 55 = .ok (.iadd, 1) := by decide +kernel
theorem dX4_write_56 : decode cX4_write 56 = .ok (.laload, 1) := by decide +kernel
theorem dX4_write_57 : decode cX4_write 57 = .ok (.lstore 6, 2) := by decide +kernel
theorem dX4_write_59 : decode cX4_write 59 = .ok (.aload_n 0, 1) := by decide +kernel
theorem dX4_write_60 : decode cX4_write 60 = .ok (.getfield 37, 3) := by decide +kernel
theorem dX4_write_63 : decode cX4_write 63 = .ok (.bipush 40, 2) := by decide +kernel
theorem dX4_write_65 : decode cX4_write 65 = .ok (.iload_n 1, 1) := by decide +kernel
theorem dX4_write_66 : decode cX4_write 66 = .ok (.imul, 1) := by decide +kernel
theorem dX4_write_67 : decode cX4_write 67 = .ok (.iload_n 2, 1) := by decide +kernel
theorem dX4_write_68 : decode cX4_write 68 = .ok (.iadd, 1) := by decide +kernel
theorem dX4_write_69 : decode cX4_write 69 = .ok (.aload_n 0, 1) := by decide +kernel
theorem dX4_write_70 : decode cX4_write 70 = .ok (.getfield 31, 3) := by decide +kernel
theorem dX4_write_73 : decode cX4_write 73 = .ok (.iload_n 1, 1) := by decide +kernel
theorem dX4_write_74 : decode cX4_write 74 = .ok (.iaload, 1) := by decide +kernel
theorem dX4_write_75 : decode cX4_write 75 = .ok (.lload_n 3, 1) := by decide +kernel
theorem dX4_write_76 : decode cX4_write 76 = .ok (.invokestatic 327, 3) := by decide +kernel
theorem dX4_write_79 : decode cX4_write 79 = .ok (.lastore, 1) := by decide +kernel
theorem dX4_write_80 : decode cX4_write 80 = .ok (.lload 6, 2) := by decide +kernel
theorem dX4_write_82 : decode cX4_write 82 = .ok (.lreturn, 1) := by decide +kernel
theorem dX4_copy_0 : decode cX4_copy 0 = .ok (.iload_n 1, 1) := by decide +kernel
theorem dX4_copy_1 : decode cX4_copy 1 = .ok (.invokestatic 319, 3) := by decide +kernel
theorem dX4_copy_4 : decode cX4_copy 4 = .ok (.ifCond .eq 10, 3) := by decide +kernel
theorem dX4_copy_7 : decode cX4_copy 7 = .ok (.iload_n 3, 1) := by decide +kernel
theorem dX4_copy_8 : decode cX4_copy 8 = .ok (.invokestatic 319, 3) := by decide +kernel
theorem dX4_copy_11 : decode cX4_copy 11 = .ok (.ifCond .ne 10, 3) := by decide +kernel
theorem dX4_copy_14 : decode cX4_copy 14 = .ok (.aload_n 0, 1) := by decide +kernel
theorem dX4_copy_15 : decode cX4_copy 15 = .ok (.ldc 44, 2) := by decide +kernel
theorem dX4_copy_17 : decode cX4_copy 17 = .ok (.invokevirtual 63, 3) := by decide +kernel
theorem dX4_copy_20 : decode cX4_copy 20 = .ok (.ireturn, 1) := by decide +kernel
theorem dX4_copy_21 : decode cX4_copy 21 = .ok (.aload_n 0, 1) := by decide +kernel
theorem dX4_copy_22 : decode cX4_copy 22 = .ok (.getfield 31, 3) := by decide +kernel
theorem dX4_copy_25 : decode cX4_copy 25 = .ok (.iload_n 1, 1) := by decide +kernel
theorem dX4_copy_26 : decode cX4_copy 26 = .ok (.iaload, 1) := by decide +kernel
theorem dX4_copy_27 : decode cX4_copy 27 = .ok (.ifCond .eq 12, 3) := by decide +kernel
theorem dX4_copy_30 : decode cX4_copy 30 = .ok (.aload_n 0, 1) := by decide +kernel
theorem dX4_copy_31 : decode cX4_copy 31 = .ok (.getfield 31, 3) := by decide +kernel
theorem dX4_copy_34 : decode cX4_copy 34 = .ok (.iload_n 3, 1) := by decide +kernel
theorem dX4_copy_35 : decode cX4_copy 35 = .ok (.iaload, 1) := by decide +kernel
theorem dX4_copy_36 : decode cX4_copy 36 = .ok (.ifCond .ne 11, 3) := by decide +kernel
theorem dX4_copy_39 : decode cX4_copy 39 = .ok (.aload_n 0, 1) := by decide +kernel
theorem dX4_copy_40 : decode cX4_copy 40 = .ok (.ldc_w 323, 3) := by decide +kernel
theorem dX4_copy_43 : decode cX4_copy 43 = .ok (.invokevirtual 63, 3) := by decide +kernel
theorem dX4_copy_46 : decode cX4_copy 46 = .ok (.ireturn, 1) := by decide +kernel
theorem dX4_copy_47 : decode cX4_copy 47 = .ok (.aload_n 0, 1) := by decide +kernel
theorem dX4_copy_48 : decode cX4_copy 48 = .ok (.getfield 31, 3) := by decide +kernel
theorem dX4_copy_51 : decode cX4_copy 51 = .ok (.iload_n 1, 1) := by decide +kernel
theorem dX4_copy_52 : decode cX4_copy 52 = .ok (.iaload, 1) := by decide +kernel
theorem dX4_copy_53 : decode cX4_copy 53 = .ok (.aload_n 0, 1) := by decide +kernel
theorem dX4_copy_54 : decode cX4_copy 54 = .ok (.getfield 31, 3) := by decide +kernel
theorem dX4_copy_57 : decode cX4_copy 57 = .ok (.iload_n 3, 1) := by decide +kernel
theorem dX4_copy_58 : decode cX4_copy 58 = .ok (.iaload, 1) := by decide +kernel
theorem dX4_copy_59 : decode cX4_copy 59 = .ok (.if_icmp .eq 10, 3) := by decide +kernel
theorem dX4_copy_62 : decode cX4_copy 62 = .ok (.aload_n 0, 1) := by decide +kernel
theorem dX4_copy_63 : decode cX4_copy 63 = .ok (.ldc 148, 2) := by decide +kernel
theorem dX4_copy_65 : decode cX4_copy 65 = .ok (.invokevirtual 63, 3) := by decide +kernel
theorem dX4_copy_68 : decode cX4_copy 68 = .ok (.ireturn, 1) := by decide +kernel
theorem dX4_copy_69 : decode cX4_copy 69 = .ok (.iload_n 2, 1) := by decide +kernel
theorem dX4_copy_70 : decode cX4_copy 70 = .ok (.ifCond .lt 40, 3) := by decide +kernel
theorem dX4_copy_73 : decode cX4_copy 73 = .ok (.iload 4, 2) := by decide +kernel
theorem dX4_copy_75 : decode cX4_copy 75 = .ok (.ifCond .lt 35, 3) := by decide +kernel
theorem dX4_copy_78 : decode cX4_copy 78 = .ok (.iload 5, 2) := by decide +kernel
theorem dX4_copy_80 : decode cX4_copy 80 = .ok (.ifCond .lt 30, 3) := by decide +kernel
theorem dX4_copy_83 : decode cX4_copy 83 = .ok (.iload 5, 2) := by decide +kernel
theorem dX4_copy_85 : decode cX4_copy 85 = .ok (.aload_n 0, 1) := by decide +kernel
theorem dX4_copy_86 : decode cX4_copy 86 = .ok (.getfield 34, 3) := by decide +kernel
theorem dX4_copy_89 : decode cX4_copy 89 = .ok (.iload_n 1, 1) := by decide +kernel
theorem dX4_copy_90 : decode cX4_copy 90 = .ok (.iaload, 1) := by decide +kernel
theorem dX4_copy_91 : decode cX4_copy 91 = .ok (.iload_n 2, 1) := by decide +kernel
theorem dX4_copy_92 : decode cX4_copy 92 = .ok (.isub, 1) := by decide +kernel
theorem dX4_copy_93 : decode cX4_copy 93 = .ok (.if_icmp .gt 17, 3) := by decide +kernel
theorem dX4_copy_96 : decode cX4_copy 96 = .ok (.iload 5, 2) := by decide +kernel
theorem dX4_copy_98 : decode cX4_copy 98 = .ok (.aload_n 0, 1) := by decide +kernel
theorem dX4_copy_99 : decode cX4_copy 99 = .ok (.getfield 34, 3) := by decide +kernel
theorem dX4_copy_102 : decode cX4_copy 102 = .ok (.iload_n 3, 1) := by decide +kernel
theorem dX4_copy_103 : decode cX4_copy 103 = .ok (.iaload, 1) := by decide +kernel
theorem dX4_copy_104 : decode cX4_copy 104 = .ok (.iload 4, 2) := by decide +kernel
theorem dX4_copy_106 : decode cX4_copy 106 = .ok (.isub, 1) := by decide +kernel
theorem dX4_copy_107 : decode cX4_copy 107 = .ok (.if_icmp .le 10, 3) := by decide +kernel
theorem dX4_copy_110 : decode cX4_copy 110 = .ok (.aload_n 0, 1) := by decide +kernel
theorem dX4_copy_111 : decode cX4_copy 111 = .ok (.ldc 44, 2) := by decide +kernel
theorem dX4_copy_113 : decode cX4_copy 113 = .ok (.invokevirtual 63, 3) := by decide +kernel
theorem dX4_copy_116 : decode cX4_copy 116 = .ok (.ireturn, 1) := by decide +kernel
theorem dX4_copy_117 : decode cX4_copy 117 = .ok (.iconst 0, 1) := by decide +kernel
theorem dX4_copy_118 : decode cX4_copy 118 = .ok (.istore 6, 2) := by decide +kernel
theorem dX4_copy_120 : decode cX4_copy 120 = .ok (.iload 6, 2) := by decide +kernel
theorem dX4_copy_122 : decode cX4_copy 122 = .ok (.iload 5, 2) := by decide +kernel
theorem dX4_copy_124 : decode cX4_copy 124 = .ok (.if_icmp .ge 30, 3) := by decide +kernel
theorem dX4_copy_127 : decode cX4_copy 127 = .ok (.aload_n 0, 1) := by decide +kernel
theorem dX4_copy_128 : decode cX4_copy 128 = .ok (.getfield 41, 3) := by decide +kernel
theorem dX4_copy_131 : decode cX4_copy 131 = .ok (.iload 6, 2) := by decide +kernel
theorem dX4_copy_133 : decode cX4_copy 133 = .ok (.aload_n 0, 1) := by decide +kernel
theorem dX4_copy_134 : decode cX4_copy 134 = .ok (.getfield 37, 3) := by decide +kernel
theorem dX4_copy_137 : decode cX4_copy 137 = .ok (.bipush 40, 2) := by decide +kernel
theorem dX4_copy_139 : decode cX4_copy 139 = .ok (.iload_n 1, 1) := by decide +kernel
theorem dX4_copy_140 : decode cX4_copy 140 = .ok (.imul, 1) := by decide +kernel
theorem dX4_copy_141 : decode cX4_copy 141 = .ok (.iload_n 2, 1) := by decide +kernel
theorem dX4_copy_142 : decode cX4_copy 142 = .ok (.iadd, 1) := by decide +kernel
theorem dX4_copy_143 : decode cX4_copy 143 = .ok (.iload 6, 2) := by decide +kernel
theorem dX4_copy_145 : decode cX4_copy 145 = .ok (.iadd, 1) := by decide +kernel
theorem dX4_copy_146 : decode cX4_copy 146 = .ok (.laload, 1) := by decide +kernel
theorem dX4_copy_147 : decode cX4_copy 147 = .ok (.lastore, 1) := by decide +kernel
theorem dX4_copy_148 : decode cX4_copy 148 = .ok (.iinc 6 1, 3) := by decide +kernel
theorem dX4_copy_151 : decode cX4_copy 151 = .ok (.goto (-31), 3) := by decide +kernel
theorem dX4_copy_154 : decode cX4_copy 154 = .ok (.iconst 0, 1) := by decide +kernel
theorem dX4_copy_155 : decode cX4_copy 155 = .ok (.istore 6, 2) := by decide +kernel
theorem dX4_copy_157 : decode cX4_copy 157 = .ok (.iload 6, 2) := by decide +kernel
theorem dX4_copy_159 : decode cX4_copy 159 = .ok (.iload 5, 2) := by decide +kernel
theorem dX4_copy_161 : decode cX4_copy 161 = .ok (.if_icmp .ge 31, 3) := by decide +kernel
theorem dX4_copy_164 : decode cX4_copy 164 = .ok (.aload_n 0, 1) := by decide +kernel
theorem dX4_copy_165 : decode cX4_copy 165 = .ok (.getfield 37, 3) := by decide +kernel
theorem dX4_copy_168 : decode cX4_copy 168 = .ok (.bipush 40, 2) := by decide +kernel
theorem dX4_copy_170 : decode cX4_copy 170 = .ok (.iload_n 3, 1) := by decide +kernel
theorem dX4_copy_171 : decode cX4_copy 171 = .ok (.imul, 1) := by decide +kernel
theorem dX4_copy_172 : decode cX4_copy 172 = .ok (.iload 4, 2) := by decide +kernel
theorem dX4_copy_174 : decode cX4_copy 174 = .ok (.iadd, 1) := by decide +kernel
theorem dX4_copy_175 : decode cX4_copy 175 = .ok (.iload 6, 2) := by decide +kernel
theorem dX4_copy_177 : decode cX4_copy 177 = .ok (.iadd, 1) := by decide +kernel
theorem dX4_copy_178 : decode cX4_copy 178 = .ok (.aload_n 0, 1) := by decide +kernel
theorem dX4_copy_179 : decode cX4_copy 179 = .ok (.getfield 41, 3) := by decide +kernel
theorem dX4_copy_182 : decode cX4_copy 182 = .ok (.iload 6, 2) := by decide +kernel
theorem dX4_copy_184 : decode cX4_copy 184 = .ok (.laload, 1) := by decide +kernel
theorem dX4_copy_185 : decode cX4_copy 185 = .ok (.lastore, 1) := by decide +kernel
theorem dX4_copy_186 : decode cX4_copy 186 = .ok (.iinc 6 1, 3) := by decide +kernel
theorem dX4_copy_189 : decode cX4_copy 189 = .ok (.goto (-32), 3) := by decide +kernel
theorem dX4_copy_192 : decode cX4_copy 192 = .ok (.iload 5, 2) := by decide +kernel
theorem dX4_copy_194 : decode cX4_copy 194 = .ok (.ireturn, 1) := by decide +kernel
theorem dX4_lays_0 : decode cX4_lays 0 = .ok (.aload_n 0, 1) := by decide +kernel
theorem dX4_lays_1 : decode cX4_lays 1 = .ok (.iload_n 1, 1) := by decide +kernel
theorem dX4_lays_2 : decode cX4_lays 2 = .ok (.invokevirtual 324, 3) := by decide +kernel
theorem dX4_lays_5 : decode cX4_lays 5 = .ok (.istore_n 2, 1) := by decide +kernel
theorem dX4_lays_6 : decode cX4_lays 6 = .ok (.iload_n 2, 1) := by decide +kernel
theorem dX4_lays_7 : decode cX4_lays 7 = .ok (.ifCond .eq 9, 3) := by decide +kernel
theorem dX4_lays_10 : decode cX4_lays 10 = .ok (.aload_n 0, 1) := by decide +kernel
theorem dX4_lays_11 : decode cX4_lays 11 = .ok (.iload_n 2, 1) := by decide +kernel
theorem dX4_lays_12 : decode cX4_lays 12 = .ok (.invokevirtual 63, 3) := by decide +kernel
theorem dX4_lays_15 : decode cX4_lays 15 = .ok (.ireturn, 1) := by decide +kernel
theorem dX4_lays_16 : decode cX4_lays 16 = .ok (.iconst 0, 1) := by decide +kernel
theorem dX4_lays_17 : decode cX4_lays 17 = .ok (.istore_n 3, 1) := by decide +kernel
theorem dX4_lays_18 : decode cX4_lays 18 = .ok (.iconst 0, 1) := by decide +kernel
theorem dX4_lays_19 : decode cX4_lays 19 = .ok (.istore 4, 2) := by decide +kernel
theorem dX4_lays_21 : decode cX4_lays 21 = .ok (.iload 4, 2) := by decide +kernel
theorem dX4_lays_23 : decode cX4_lays 23 = .ok (.aload_n 0, 1) := by decide +kernel
theorem dX4_lays_24 : decode cX4_lays 24 = .ok (.getfield 34, 3) := by decide +kernel
theorem dX4_lays_27 : decode cX4_lays 27 = .ok (.iload_n 1, 1) := by decide +kernel
theorem dX4_lays_28 : decode cX4_lays 28 = .ok (.iaload, 1) := by decide +kernel
theorem dX4_lays_29 : decode cX4_lays 29 = .ok (.if_icmp .ge 93, 3) := by decide +kernel
theorem dX4_lays_32 : decode cX4_lays 32 = .ok (.iload 4, 2) := by decide +kernel
theorem dX4_lays_34 : decode cX4_lays 34 = .ok (.aload_n 0, 1) := by decide +kernel
theorem dX4_lays_35 : decode cX4_lays 35 = .ok (.getfield 7, 3) := by decide +kernel
theorem dX4_lays_38 : decode cX4_lays 38 = .ok (.iconst 1, 1) := by decide +kernel
theorem dX4_lays_39 : decode cX4_lays 39 = .ok (.iaload, 1) := by decide +kernel
theorem dX4_lays_40 : decode cX4_lays 40 = .ok (.if_icmp .ge 82, 3) := by decide +kernel
theorem dX4_lays_43 : decode cX4_lays 43 = .ok (.aload_n 0, 1) := by decide +kernel
theorem dX4_lays_44 : decode cX4_lays 44 = .ok (.getfield 37, 3) := by decide +kernel
theorem dX4_lays_47 : decode cX4_lays 47 = .ok (.bipush 40, 2) := by decide +kernel
theorem dX4_lays_49 : decode cX4_lays 49 = .ok (.iload_n 1, 1) := by decide +kernel
theorem dX4_lays_50 : decode cX4_lays 50 = .ok (.imul, 1) := by decide +kernel
theorem dX4_lays_51 : decode cX4_lays 51 = .ok (.iload 4, 2) := by decide +kernel
theorem dX4_lays_53 : decode cX4_lays 53 = .ok (.iadd, 1) := by decide +kernel
theorem dX4_lays_54 : decode cX4_lays 54 = .ok (.laload, 1) := by decide +kernel
theorem dX4_lays_55 : decode cX4_lays 55 = .ok (.lconst 0, 1) := by decide +kernel
theorem dX4_lays_56 : decode cX4_lays 56 = .ok (.ldc2_w 136, 3) := by decide +kernel
theorem dX4_lays_59 : decode cX4_lays 59 = .ok (.invokestatic 49, 3) := by decide +kernel
theorem dX4_lays_62 : decode cX4_lays 62 = .ok (.istore 5, 2) := by decide +kernel
theorem dX4_lays_64 : decode cX4_lays 64 = .ok (.aload_n 0, 1) := by decide +kernel
theorem dX4_lays_65 : decode cX4_lays 65 = .ok (.getfield 7, 3) := by decide +kernel
theorem dX4_lays_68 : decode cX4_lays 68 = .ok (.iload 4, 2) := by decide +kernel
theorem dX4_lays_70 : decode cX4_lays 70 = .ok (.iconst 3, 1) := by decide +kernel
theorem dX4_lays_71 : decode cX4_lays 71 = .ok (.invokestatic 45, 3) := by decide +kernel
theorem dX4_lays_74 : decode cX4_lays 74 = .ok (.iload 5, 2) := by decide +kernel
theorem dX4_lays_76 : decode cX4_lays 76 = .ok (.ifCond .eq 19, 3) := by decide +kernel
theorem dX4_lays_79 : decode cX4_lays 79 = .ok (.aload_n 0, 1) := by decide +kernel
theorem dX4_lays_80 : decode cX4_lays 80 = .ok (.getfield 37, 3) := by decide +kernel
theorem dX4_lays_83 : decode cX4_lays 83 = .ok (.bipush 40, 2) := by decide +kernel
theorem dX4_lays_85 : decode cX4_lays 85 = .ok (.iload_n 1, 1) := by decide +kernel
theorem dX4_lays_86 : decode cX4_lays 86 = .ok (.imul, 1) := by decide +kernel
theorem dX4_lays_87 : decode cX4_lays 87 = .ok (.iload 4, 2) := by decide +kernel
theorem dX4_lays_89 : decode cX4_lays 89 = .ok (.iadd, 1) := by decide +kernel
theorem dX4_lays_90 : decode cX4_lays 90 = .ok (.laload, 1) := by decide +kernel
theorem dX4_lays_91 : decode cX4_lays 91 = .ok (.l2i, 1) := by decide +kernel
theorem dX4_lays_92 : decode cX4_lays 92 = .ok (.goto 10, 3) := by decide +kernel
theorem dX4_lays_95 : decode cX4_lays 95 = .ok (.aload_n 0, 1) := by decide +kernel
theorem dX4_lays_96 : decode cX4_lays 96 = .ok (.iload 4, 2) := by decide +kernel
theorem dX4_lays_98 : decode cX4_lays 98 = .ok (.iconst 3, 1) := by decide +kernel
theorem dX4_lays_99 : decode cX4_lays 99 = .ok (.invokevirtual 55, 3) := by decide +kernel
theorem dX4_lays_102 : decode cX4_lays 102 = .ok (.iastore, 1) := by decide +kernel
theorem dX4_lays_103 : decode cX4_lays 103 = .ok (.iload_n 3, 1) := by decide +kernel
theorem dX4_lays_104 : decode cX4_lays 104 = .ok (.iload 5, 2) := by decide +kernel
theorem dX4_lays_106 : decode cX4_lays 106 = .ok (.ifCond .eq 7, 3) := by decide +kernel
theorem dX4_lays_109 : decode cX4_lays 109 = .ok (.iconst 1, 1) := by decide +kernel
theorem dX4_lays_110 : decode cX4_lays 110 = .ok (.goto 4, 3) := by decide +kernel
theorem dX4_lays_113 : decode cX4_lays 113 = .ok (.iconst 0, 1) := by decide +kernel
theorem dX4_lays_114 : decode cX4_lays 114 = .ok (.iadd, 1) := by decide +kernel
theorem dX4_lays_115 : decode cX4_lays 115 = .ok (.istore_n 3, 1) := by decide +kernel
theorem dX4_lays_116 : decode cX4_lays 116 = .ok (.iinc 4 1, 3) := by decide +kernel
theorem dX4_lays_119 : decode cX4_lays 119 = .ok (.goto (-98), 3) := by decide +kernel
theorem dX4_lays_122 : decode cX4_lays 122 = .ok (.iload_n 3, 1) := by decide +kernel
theorem dX4_lays_123 : decode cX4_lays 123 = .ok (.ireturn, 1) := by decide +kernel
theorem dX4_booked_0 : decode cX4_booked 0 = .ok (.bipush 100, 2) := by decide +kernel
theorem dX4_booked_2 : decode cX4_booked 2 = .ok (.aload_n 0, 1) := by decide +kernel
theorem dX4_booked_3 : decode cX4_booked 3 = .ok (.iload_n 1, 1) := by decide +kernel
theorem dX4_booked_4 : decode cX4_booked 4 = .ok (.iconst 2, 1) := by decide +kernel
theorem dX4_booked_5 : decode cX4_booked 5 = .ok (.invokevirtual 55, 3) := by decide +kernel
theorem dX4_booked_8 : decode cX4_booked 8 = .ok (.imul, 1) := by decide +kernel
theorem dX4_booked_9 : decode cX4_booked 9 = .ok (.aload_n 0, 1) := by decide +kernel
theorem dX4_booked_10 : decode cX4_booked 10 = .ok (.iload_n 1, 1) := by decide +kernel
theorem dX4_booked_11 : decode cX4_booked 11 = .ok (.iconst 3, 1) := by decide +kernel
theorem dX4_booked_12 : decode cX4_booked 12 = .ok (.invokevirtual 55, 3) := by decide +kernel
theorem dX4_booked_15 : decode cX4_booked 15 = .ok (.iadd, 1) := by decide +kernel
theorem dX4_booked_16 : decode cX4_booked 16 = .ok (.ireturn, 1) := by decide +kernel
theorem dX4_book_0 : decode cX4_book 0 = .ok (.aload_n 0, 1) := by decide +kernel
theorem dX4_book_1 : decode cX4_book 1 = .ok (.iload_n 1, 1) := by decide +kernel
theorem dX4_book_2 : decode cX4_book 2 = .ok (.invokevirtual 324, 3) := by decide +kernel
theorem dX4_book_5 : decode cX4_book 5 = .ok (.istore_n 3, 1) := by decide +kernel
theorem dX4_book_6 : decode cX4_book 6 = .ok (.iload_n 3, 1) := by decide +kernel
theorem dX4_book_7 : decode cX4_book 7 = .ok (.ifCond .eq 9, 3) := by decide +kernel
theorem dX4_book_10 : decode cX4_book 10 = .ok (.aload_n 0, 1) := by decide +kernel
theorem dX4_book_11 : decode cX4_book 11 = .ok (.iload_n 3, 1) := by decide +kernel
theorem dX4_book_12 : decode cX4_book 12 = .ok (.invokevirtual 63, 3) := by decide +kernel
theorem dX4_book_15 : decode cX4_book 15 = .ok (.ireturn, 1) := by decide +kernel
theorem dX4_book_16 : decode cX4_book 16 = .ok (.aload_n 0, 1) := by decide +kernel
theorem dX4_book_17 : decode cX4_book 17 = .ok (.iload_n 2, 1) := by decide +kernel
theorem dX4_book_18 : decode cX4_book 18 = .ok (.invokevirtual 128, 3) := by decide +kernel
theorem dX4_book_21 : decode cX4_book 21 = .ok (.ifCond .ne 10, 3) := by decide +kernel
theorem dX4_book_24 : decode cX4_book 24 = .ok (.aload_n 0, 1) := by decide +kernel
theorem dX4_book_25 : decode cX4_book 25 = .ok (.ldc 44, 2) := by decide +kernel
theorem dX4_book_27 : decode cX4_book 27 = .ok (.invokevirtual 63, 3) := by decide +kernel
theorem dX4_book_30 : decode cX4_book 30 = .ok (.ireturn, 1) := by decide +kernel
theorem dX4_book_31 : decode cX4_book 31 = .ok (.aload_n 0, 1) := by decide +kernel
theorem dX4_book_32 : decode cX4_book 32 = .ok (.invokevirtual 171, 3) := by decide +kernel
theorem dX4_book_35 : decode cX4_book 35 = .ok (.iconst 0, 1) := by decide +kernel
theorem dX4_book_36 : decode cX4_book 36 = .ok (.istore 4, 2) := by decide +kernel
theorem dX4_book_38 : decode cX4_book 38 = .ok (.iload 4, 2) := by decide +kernel
theorem dX4_book_40 : decode cX4_book 40 = .ok (.aload_n 0, 1) := by decide +kernel
theorem dX4_book_41 : decode cX4_book 41 = .ok (.getfield 34, 3) := by decide +kernel
theorem dX4_book_44 : decode cX4_book 44 = .ok (.iload_n 1, 1) := by decide +kernel
theorem dX4_book_45 : decode cX4_book 45 = .ok (.iaload, 1) := by decide +kernel
theorem dX4_book_46 : decode cX4_book 46 = .ok (.if_icmp .ge 40, 3) := by decide +kernel
theorem dX4_book_49 : decode cX4_book 49 = .ok (.aload_n 0, 1) := by decide +kernel
theorem dX4_book_50 : decode cX4_book 50 = .ok (.getfield 37, 3) := by decide +kernel
theorem dX4_book_53 : decode cX4_book 53 = .ok (.bipush 40, 2) := by decide +kernel
theorem dX4_book_55 : decode cX4_book 55 = .ok (.iload_n 1, 1) := by decide +kernel
theorem dX4_book_56 : decode cX4_book 56 = .ok (.imul, 1) := by decide +kernel
theorem dX4_book_57 : decode cX4_book 57 = .ok (.iload 4, 2) := by decide +kernel
theorem dX4_book_59 : decode cX4_book 59 = .ok (.iadd, 1) := by decide +kernel
theorem dX4_book_60 : decode cX4_book 60 = .ok (.aload_n 0, 1) := by decide +kernel
theorem dX4_book_61 : decode cX4_book 61 = .ok (.getfield 31, 3) := by decide +kernel
theorem dX4_book_64 : decode cX4_book 64 = .ok (.iload_n 1, 1) := by decide +kernel
theorem dX4_book_65 : decode cX4_book 65 = .ok (.iaload, 1) := by decide +kernel
theorem dX4_book_66 : decode cX4_book 66 = .ok (.aload_n 0, 1) := by decide +kernel
theorem dX4_book_67 : decode cX4_book 67 = .ok (.iload_n 2, 1) := by decide +kernel
theorem dX4_book_68 : decode cX4_book 68 = .ok (.invokevirtual 331, 3) := by decide +kernel
theorem dX4_book_71 : decode cX4_book 71 = .ok (.i2l, 1) := by decide +kernel
theorem dX4_book_72 : decode cX4_book 72 = .ok (.invokestatic 327, 3) := by decide +kernel
theorem dX4_book_75 : decode cX4_book 75 = .ok (.lastore, 1) := by decide +kernel
theorem dX4_book_76 : decode cX4_book 76 = .ok (.aload_n 0, 1) := by decide +kernel
theorem dX4_book_77 : decode cX4_book 77 = .ok (.invokevirtual 159, 3) := by decide +kernel
theorem dX4_book_80 : decode cX4_book 80 = .ok (.iinc 4 1, 3) := by decide +kernel
theorem dX4_book_83 : decode cX4_book 83 = .ok (.goto (-45), 3) := by decide +kernel
theorem dX4_book_86 : decode cX4_book 86 = .ok (.aload_n 0, 1) := by decide +kernel
theorem dX4_book_87 : decode cX4_book 87 = .ok (.aload_n 0, 1) := by decide +kernel
theorem dX4_book_88 : decode cX4_book 88 = .ok (.getfield 34, 3) := by decide +kernel
theorem dX4_book_91 : decode cX4_book 91 = .ok (.iload_n 1, 1) := by decide +kernel
theorem dX4_book_92 : decode cX4_book 92 = .ok (.iaload, 1) := by decide +kernel
theorem dX4_book_93 : decode cX4_book 93 = .ok (.invokevirtual 174, 3) := by decide +kernel
theorem dX4_book_96 : decode cX4_book 96 = .ok (.ireturn, 1) := by decide +kernel
theorem dX4_isBook_0 : decode cX4_isBook 0 = .ok (.iconst 0, 1) := by decide +kernel
theorem dX4_isBook_1 : decode cX4_isBook 1 = .ok (.istore_n 3, 1) := by decide +kernel
theorem dX4_isBook_2 : decode cX4_isBook 2 = .ok (.iload_n 3, 1) := by decide +kernel
theorem dX4_isBook_3 : decode cX4_isBook 3 = .ok (.aload_n 0, 1) := by decide +kernel
theorem dX4_isBook_4 : decode cX4_isBook 4 = .ok (.getfield 34, 3) := by decide +kernel
theorem dX4_isBook_7 : decode cX4_isBook 7 = .ok (.iload_n 1, 1) := by decide +kernel
theorem dX4_isBook_8 : decode cX4_isBook 8 = .ok (.iaload, 1) := by decide +kernel
theorem dX4_isBook_9 : decode cX4_isBook 9 = .ok (.if_icmp .ge 36, 3) := by decide +kernel
theorem dX4_isBook_12 : decode cX4_isBook 12 = .ok (.aload_n 0, 1) := by decide +kernel
theorem dX4_isBook_13 : decode cX4_isBook 13 = .ok (.getfield 37, 3) := by decide +kernel
theorem dX4_isBook_16 : decode cX4_isBook 16 = .ok (.bipush 40, 2) := by decide +kernel
theorem dX4_isBook_18 : decode cX4_isBook 18 = .ok (.iload_n 1, 1) := by decide +kernel
theorem dX4_isBook_19 : decode cX4_isBook 19 = .ok (.imul, 1) := by decide +kernel
theorem dX4_isBook_20 : decode cX4_isBook 20 = .ok (.iload_n 3, 1) := by decide +kernel
theorem dX4_isBook_21 : decode cX4_isBook 21 = .ok (.iadd, 1) := by decide +kernel
theorem dX4_isBook_22 : decode cX4_isBook 22 = .ok (.laload, 1) := by decide +kernel
theorem dX4_isBook_23 : decode cX4_isBook 23 = .ok (.aload_n 0, 1) := by decide +kernel
theorem dX4_isBook_24 : decode cX4_isBook 24 = .ok (.iload_n 2, 1) := by decide +kernel
theorem dX4_isBook_25 : decode cX4_isBook 25 = .ok (.invokevirtual 331, 3) := by decide +kernel
theorem dX4_isBook_28 : decode cX4_isBook 28 = .ok (.i2l, 1) := by decide +kernel
theorem dX4_isBook_29 : decode cX4_isBook 29 = .ok (.lcmp, 1) := by decide +kernel
theorem dX4_isBook_30 : decode cX4_isBook 30 = .ok (.ifCond .eq 5, 3) := by decide +kernel
theorem dX4_isBook_33 : decode cX4_isBook 33 = .ok (.iconst 0, 1) := by decide +kernel
theorem dX4_isBook_34 : decode cX4_isBook 34 = .ok (.ireturn, 1) := by decide +kernel
theorem dX4_isBook_35 : decode cX4_isBook 35 = .ok (.aload_n 0, 1) := by decide +kernel
theorem dX4_isBook_36 : decode cX4_isBook 36 = .ok (.invokevirtual 159, 3) := by decide +kernel
theorem dX4_isBook_39 : decode cX4_isBook 39 = .ok (.iinc 3 1, 3) := by decide +kernel
theorem dX4_isBook_42 : decode cX4_isBook 42 = .ok (.goto (-40), 3) := by decide +kernel
theorem dX4_isBook_45 : decode cX4_isBook 45 = .ok (.iconst 1, 1) := by decide +kernel
theorem dX4_isBook_46 : decode cX4_isBook 46 = .ok (.ireturn, 1) := by decide +kernel
theorem dX4_read_0 : decode cX4_read 0 = .ok (.aload_n 0, 1) := by decide +kernel
theorem dX4_read_1 : decode cX4_read 1 = .ok (.iload_n 1, 1) := by decide +kernel
theorem dX4_read_2 : decode cX4_read 2 = .ok (.invokevirtual 324, 3) := by decide +kernel
theorem dX4_read_5 : decode cX4_read 5 = .ok (.istore_n 3, 1) := by decide +kernel
theorem dX4_read_6 : decode cX4_read 6 = .ok (.iload_n 3, 1) := by decide +kernel
theorem dX4_read_7 : decode cX4_read 7 = .ok (.ifCond .eq 9, 3) := by decide +kernel
theorem dX4_read_10 : decode cX4_read 10 = .ok (.aload_n 0, 1) := by decide +kernel
theorem dX4_read_11 : decode cX4_read 11 = .ok (.iload_n 3, 1) := by decide +kernel
theorem dX4_read_12 : decode cX4_read 12 = .ok (.invokevirtual 63, 3) := by decide +kernel
theorem dX4_read_15 : decode cX4_read 15 = .ok (.ireturn, 1) := by decide +kernel
theorem dX4_read_16 : decode cX4_read 16 = .ok (.aload_n 0, 1) := by decide +kernel
theorem dX4_read_17 : decode cX4_read 17 = .ok (.iload_n 2, 1) := by decide +kernel
theorem dX4_read_18 : decode cX4_read 18 = .ok (.invokevirtual 128, 3) := by decide +kernel
theorem dX4_read_21 : decode cX4_read 21 = .ok (.ifCond .ne 10, 3) := by decide +kernel
theorem dX4_read_24 : decode cX4_read 24 = .ok (.aload_n 0, 1) := by decide +kernel
theorem dX4_read_25 : decode cX4_read 25 = .ok (.ldc 44, 2) := by decide +kernel
theorem dX4_read_27 : decode cX4_read 27 = .ok (.invokevirtual 63, 3) := by decide +kernel
theorem dX4_read_30 : decode cX4_read 30 = .ok (.ireturn, 1) := by decide +kernel
theorem dX4_read_31 : decode cX4_read 31 = .ok (.aload_n 0, 1) := by decide +kernel
theorem dX4_read_32 : decode cX4_read 32 = .ok (.invokevirtual 171, 3) := by decide +kernel
theorem dX4_read_35 : decode cX4_read 35 = .ok (.iconst 0, 1) := by decide +kernel
theorem dX4_read_36 : decode cX4_read 36 = .ok (.istore 4, 2) := by decide +kernel
theorem dX4_read_38 : decode cX4_read 38 = .ok (.iconst 0, 1) := by decide +kernel
theorem dX4_read_39 : decode cX4_read 39 = .ok (.istore 5, 2) := by decide +kernel
theorem dX4_read_41 : decode cX4_read 41 = .ok (.iload 5, 2) := by decide +kernel
theorem dX4_read_43 : decode cX4_read 43 = .ok (.bipush 30, 2) := by decide +kernel
theorem dX4_read_45 : decode cX4_read 45 = .ok (.if_icmp .ge 60, 3) := by decide +kernel
theorem dX4_read_48 : decode cX4_read 48 = .ok (.aload_n 0, 1) := by decide +kernel
theorem dX4_read_49 : decode cX4_read 49 = .ok (.getfield 7, 3) := by decide +kernel
theorem dX4_read_52 : decode cX4_read 52 = .ok (.iload_n 2, 1) := by decide +kernel
theorem dX4_read_53 : decode cX4_read 53 = .ok (.iconst 0, 1) := by decide +kernel
theorem dX4_read_54 : decode cX4_read 54 = .ok (.invokestatic 45, 3) := by decide +kernel
theorem dX4_read_57 : decode cX4_read 57 = .ok (.iload 5, 2) := by decide +kernel
theorem dX4_read_59 : decode cX4_read 59 = .ok (.iconst 5, 1) := by decide +kernel
theorem dX4_read_60 : decode cX4_read 60 = .ok (.idiv, 1) := by decide +kernel
theorem dX4_read_61 : decode cX4_read 61 = .ok (.iastore, 1) := by decide +kernel
theorem dX4_read_62 : decode cX4_read 62 = .ok (.aload_n 0, 1) := by decide +kernel
theorem dX4_read_63 : decode cX4_read 63 = .ok (.getfield 7, 3) := by decide +kernel
theorem dX4_read_66 : decode cX4_read 66 = .ok (.iload_n 2, 1) := by decide +kernel
theorem dX4_read_67 : decode cX4_read 67 = .ok (.iconst 5, 1) := by decide +kernel
theorem dX4_read_68 : decode cX4_read 68 = .ok (.invokestatic 45, 3) := by decide +kernel
theorem dX4_read_71 : decode cX4_read 71 = .ok (.iload 5, 2) := by decide +kernel
theorem dX4_read_73 : decode cX4_read 73 = .ok (.iconst 5, 1) := by decide +kernel
theorem dX4_read_74 : decode cX4_read 74 = .ok (.irem, 1) := by decide +kernel
theorem dX4_read_75 : decode cX4_read 75 = .ok (.iastore, 1) := by decide +kernel
theorem dX4_read_76 : decode cX4_read 76 = .ok (.aload_n 0, 1) := by decide +kernel
theorem dX4_read_77 : decode cX4_read 77 = .ok (.iload 4, 2) := by decide +kernel
theorem dX4_read_79 : decode cX4_read 79 = .ok (.aload_n 0, 1) := by decide +kernel
theorem dX4_read_80 : decode cX4_read 80 = .ok (.iload_n 1, 1) := by decide +kernel
theorem dX4_read_81 : decode cX4_read 81 = .ok (.iload_n 2, 1) := by decide +kernel
theorem dX4_read_82 : decode cX4_read 82 = .ok (.invokevirtual 334, 3) := by decide +kernel
theorem dX4_read_85 : decode cX4_read 85 = .ok (.ifCond .eq 7, 3) := by decide +kernel
theorem dX4_read_88 : decode cX4_read 88 = .ok (.iconst 1, 1) := by decide +kernel
theorem dX4_read_89 : decode cX4_read 89 = .ok (.goto 4, 3) := by decide +kernel
theorem dX4_read_92 : decode cX4_read 92 = .ok (.iconst 0, 1) := by decide +kernel
theorem dX4_read_93 : decode cX4_read 93 = .ok (.iadd, 1) := by decide +kernel
theorem dX4_read_94 : decode cX4_read 94 = .ok (.invokevirtual 174, 3) := by decide +kernel
theorem dX4_read_97 : decode cX4_read 97 = .ok (.istore 4, 2) := by decide +kernel
theorem dX4_read_99 : decode cX4_read 99 = .ok (.iinc 5 1, 3) := by decide +kernel
theorem dX4_read_102 : decode cX4_read 102 = .ok (.goto (-61), 3) := by decide +kernel
theorem dX4_read_105 : decode cX4_read 105 = .ok (.iload 4, 2) := by decide +kernel
theorem dX4_read_107 : decode cX4_read 107 = .ok (.ireturn, 1) := by decide +kernel
theorem dX4_image_0 : decode cX4_image 0 = .ok (.iconst 0, 1) := by decide +kernel
theorem dX4_image_1 : decode cX4_image 1 = .ok (.istore_n 1, 1) := by decide +kernel
theorem dX4_image_2 : decode cX4_image 2 = .ok (.iload_n 1, 1) := by decide +kernel
theorem dX4_image_3 : decode cX4_image 3 = .ok (.bipush 75, 2) := by decide +kernel
theorem dX4_image_5 : decode cX4_image 5 = .ok (.if_icmp .ge 21, 3) := by decide +kernel
theorem dX4_image_8 : decode cX4_image 8 = .ok (.aload_n 0, 1) := by decide +kernel
theorem dX4_image_9 : decode cX4_image 9 = .ok (.getfield 13, 3) := by decide +kernel
theorem dX4_image_12 : decode cX4_image 12 = .ok (.iload_n 1, 1) := by decide +kernel
theorem dX4_image_13 : decode cX4_image 13 = .ok (.aload_n 0, 1) := by decide +kernel
theorem dX4_image_14 : decode cX4_image 14 = .ok (.getfield 7, 3) := by decide +kernel
theorem dX4_image_17 : decode cX4_image 17 = .ok (.iload_n 1, 1) := by decide +kernel
theorem dX4_image_18 : decode cX4_image 18 = .ok (.iaload, 1) := by decide +kernel
theorem dX4_image_19 : decode cX4_image 19 = .ok (.iastore, 1) := by decide +kernel
theorem dX4_image_20 : decode cX4_image 20 = .ok (.iinc 1 1, 3) := by decide +kernel
theorem dX4_image_23 : decode cX4_image 23 = .ok (.goto (-21), 3) := by decide +kernel
theorem dX4_image_26 : decode cX4_image 26 = .ok (.aload_n 0, 1) := by decide +kernel
theorem dX4_image_27 : decode cX4_image 27 = .ok (.iconst 1, 1) := by decide +kernel
theorem dX4_image_28 : decode cX4_image 28 = .ok (.putfield 337, 3) := by decide +kernel
theorem dX4_image_31 : decode cX4_image 31 = .ok (.iconst 1, 1) := by decide +kernel
theorem dX4_image_32 : decode cX4_image 32 = .ok (.ireturn, 1) := by decide +kernel
theorem dX4_undo_0 : decode cX4_undo 0 = .ok (.aload_n 0, 1) := by decide +kernel
theorem dX4_undo_1 : decode cX4_undo 1 = .ok (.getfield 337, 3) := by decide +kernel
theorem dX4_undo_4 : decode cX4_undo 4 = .ok (.ifCond .ne 10, 3) := by decide +kernel
theorem dX4_undo_7 : decode cX4_undo 7 = .ok (.aload_n 0, 1) := by decide +kernel
theorem dX4_undo_8 : decode cX4_undo 8 = .ok (.ldc 186, 2) := by decide +kernel
theorem dX4_undo_10 : decode cX4_undo 10 = .ok (.invokevirtual 63, 3) := by decide +kernel
theorem dX4_undo_13 : decode cX4_undo 13 = .ok (.ireturn, 1) := by decide +kernel
theorem dX4_undo_14 : decode cX4_undo 14 = .ok (.iconst 0, 1) := by decide +kernel
theorem dX4_undo_15 : decode cX4_undo 15 = .ok (.istore_n 1, 1) := by decide +kernel
theorem dX4_undo_16 : decode cX4_undo 16 = .ok (.iload_n 1, 1) := by decide +kernel
theorem dX4_undo_17 : decode cX4_undo 17 = .ok (.bipush 75, 2) := by decide +kernel
theorem dX4_undo_19 : decode cX4_undo 19 = .ok (.if_icmp .ge 21, 3) := by decide +kernel
theorem dX4_undo_22 : decode cX4_undo 22 = .ok (.aload_n 0, 1) := by decide +kernel
theorem dX4_undo_23 : decode cX4_undo 23 = .ok (.getfield 7, 3) := by decide +kernel
theorem dX4_undo_26 : decode cX4_undo 26 = .ok (.iload_n 1, 1) := by decide +kernel
theorem dX4_undo_27 : decode cX4_undo 27 = .ok (.aload_n 0, 1) := by decide +kernel
theorem dX4_undo_28 : decode cX4_undo 28 = .ok (.getfield 13, 3) := by decide +kernel
theorem dX4_undo_31 : decode cX4_undo 31 = .ok (.iload_n 1, 1) := by decide +kernel
theorem dX4_undo_32 : decode cX4_undo 32 = .ok (.iaload, 1) := by decide +kernel
theorem dX4_undo_33 : decode cX4_undo 33 = .ok (.iastore, 1) := by decide +kernel
theorem dX4_undo_34 : decode cX4_undo 34 = .ok (.iinc 1 1, 3) := by decide +kernel
theorem dX4_undo_37 : decode cX4_undo 37 = .ok (.goto (-21), 3) := by decide +kernel
theorem dX4_undo_40 : decode cX4_undo 40 = .ok (.aload_n 0, 1) := by decide +kernel
theorem dX4_undo_41 : decode cX4_undo 41 = .ok (.getfield 7, 3) := by decide +kernel
theorem dX4_undo_44 : decode cX4_undo 44 = .ok (.iconst 1, 1) := by decide +kernel
theorem dX4_undo_45 : decode cX4_undo 45 = .ok (.iaload, 1) := by decide +kernel
theorem dX4_undo_46 : decode cX4_undo 46 = .ok (.ireturn, 1) := by decide +kernel
theorem dX4_tear_0 : decode cX4_tear 0 = .ok (.aload_n 0, 1) := by decide +kernel
theorem dX4_tear_1 : decode cX4_tear 1 = .ok (.getfield 337, 3) := by decide +kernel
theorem dX4_tear_4 : decode cX4_tear 4 = .ok (.ifCond .eq 7, 3) := by decide +kernel
theorem dX4_tear_7 : decode cX4_tear 7 = .ok (.iconst 1, 1) := by decide +kernel
theorem dX4_tear_8 : decode cX4_tear 8 = .ok (.goto 4, 3) := by decide +kernel
theorem dX4_tear_11 : decode cX4_tear 11 = .ok (.iconst 0, 1) := by decide +kernel
theorem dX4_tear_12 : decode cX4_tear 12 = .ok (.istore_n 1, 1) := by decide +kernel
theorem dX4_tear_13 : decode cX4_tear 13 = .ok (.aload_n 0, 1) := by decide +kernel
theorem dX4_tear_14 : decode cX4_tear 14 = .ok (.iconst 0, 1) := by decide +kernel
theorem dX4_tear_15 : decode cX4_tear 15 = .ok (.putfield 337, 3) := by decide +kernel
theorem dX4_tear_18 : decode cX4_tear 18 = .ok (.iload_n 1, 1) := by decide +kernel
theorem dX4_tear_19 : decode cX4_tear 19 = .ok (.ireturn, 1) := by decide +kernel
theorem dX4_count_0 : decode cX4_count 0 = .ok (.iload_n 1, 1) := by decide +kernel
theorem dX4_count_1 : decode cX4_count 1 = .ok (.tableswitch 55 0 3 #[31, 38, 43, 49], 31) := by decide +kernel
theorem dX4_count_32 : decode cX4_count 32 = .ok (.aload_n 0, 1) := by decide +kernel
theorem dX4_count_33 : decode cX4_count 33 = .ok (.getfield 7, 3) := by decide +kernel
theorem dX4_count_36 : decode cX4_count 36 = .ok (.iconst 1, 1) := by decide +kernel
theorem dX4_count_37 : decode cX4_count 37 = .ok (.iaload, 1) := by decide +kernel
theorem dX4_count_38 : decode cX4_count 38 = .ok (.ireturn, 1) := by decide +kernel
theorem dX4_count_39 : decode cX4_count 39 = .ok (.aload_n 0, 1) := by decide +kernel
theorem dX4_count_40 : decode cX4_count 40 = .ok (.getfield 207, 3) := by decide +kernel
theorem dX4_count_43 : decode cX4_count 43 = .ok (.ireturn, 1) := by decide +kernel
theorem dX4_count_44 : decode cX4_count 44 = .ok (.aload_n 0, 1) := by decide +kernel
theorem dX4_count_45 : decode cX4_count 45 = .ok (.iconst 4, 1) := by decide +kernel
theorem dX4_count_46 : decode cX4_count 46 = .ok (.invokevirtual 113, 3) := by decide +kernel
theorem dX4_count_49 : decode cX4_count 49 = .ok (.ireturn, 1) := by decide +kernel
theorem dX4_count_50 : decode cX4_count 50 = .ok (.aload_n 0, 1) := by decide +kernel
theorem dX4_count_51 : decode cX4_count 51 = .ok (.iconst 3, 1) := by decide +kernel
theorem dX4_count_52 : decode cX4_count 52 = .ok (.invokevirtual 113, 3) := by decide +kernel
theorem dX4_count_55 : decode cX4_count 55 = .ok (.ireturn, 1) := by decide +kernel
theorem dX4_count_56 : decode cX4_count 56 = .ok (.aload_n 0, 1) := by decide +kernel
theorem dX4_count_57 : decode cX4_count 57 = .ok (.ldc 44, 2) := by decide +kernel
theorem dX4_count_59 : decode cX4_count 59 = .ok (.invokevirtual 63, 3) := by decide +kernel
theorem dX4_count_62 : decode cX4_count 62 = .ok (.ireturn, 1) := by decide +kernel
theorem dX4_status_0 : decode cX4_status 0 = .ok (.iload_n 1, 1) := by decide +kernel
theorem dX4_status_1 : decode cX4_status 1 = .ok (.i2l, 1) := by decide +kernel
theorem dX4_status_2 : decode cX4_status 2 = .ok (.ldc2_w 340, 3) := by decide +kernel
theorem dX4_status_5 : decode cX4_status 5 = .ok (.ldc2_w 342, 3) := by decide +kernel
theorem dX4_status_8 : decode cX4_status 8 = .ok (.invokestatic 49, 3) := by decide +kernel
theorem dX4_status_11 : decode cX4_status 11 = .ok (.ifCond .ne 10, 3) := by decide +kernel
theorem dX4_status_14 : decode cX4_status 14 = .ok (.aload_n 0, 1) := by decide +kernel
theorem dX4_status_15 : decode cX4_status 15 = .ok (.ldc 44, 2) := by decide +kernel
theorem dX4_status_17 : decode cX4_status 17 = .ok (.invokevirtual 63, 3) := by decide +kernel
theorem dX4_status_20 : decode cX4_status 20 = .ok (.ireturn, 1) := by decide +kernel
theorem dX4_status_21 : decode cX4_status 21 = .ok (.iconst 0, 1) := by decide +kernel
theorem dX4_status_22 : decode cX4_status 22 = .ok (.istore_n 2, 1) := by decide +kernel
theorem dX4_status_23 : decode cX4_status 23 = .ok (.iconst 0, 1) := by decide +kernel
theorem dX4_status_24 : decode cX4_status 24 = .ok (.istore_n 3, 1) := by decide +kernel
theorem dX4_status_25 : decode cX4_status 25 = .ok (.iload_n 3, 1) := by decide +kernel
theorem dX4_status_26 : decode cX4_status 26 = .ok (.bipush 7, 2) := by decide +kernel
theorem dX4_status_28 : decode cX4_status 28 = .ok (.if_icmp .ge 31, 3) := by decide +kernel
theorem dX4_status_31 : decode cX4_status 31 = .ok (.iload_n 2, 1) := by decide +kernel
theorem dX4_status_32 : decode cX4_status 32 = .ok (.iload_n 1, 1) := by decide +kernel
theorem dX4_status_33 : decode cX4_status 33 = .ok (.ifCond .lt 8, 3) := by decide +kernel
theorem dX4_status_36 : decode cX4_status 36 = .ok (.iload_n 3, 1) := by decide +kernel
theorem dX4_status_37 : decode cX4_status 37 = .ok (.iload_n 1, 1) := by decide +kernel
theorem dX4_status_38 : decode cX4_status 38 = .ok (.if_icmp .ne 12, 3) := by decide +kernel
theorem dX4_status_41 : decode cX4_status 41 = .ok (.aload_n 0, 1) := by decide +kernel
theorem dX4_status_42 : decode cX4_status 42 = .ok (.getfield 22, 3) := by decide +kernel
theorem dX4_status_45 : decode cX4_status 45 = .ok (.iload_n 3, 1) := by decide +kernel
theorem dX4_status_46 : decode cX4_status 46 = .ok (.iaload, 1) := by decide +kernel
theorem dX4_status_47 : decode cX4_status 47 = .ok (.goto 4, 3) := by decide +kernel
theorem dX4_status_50 : decode cX4_status 50 = .ok (.iconst 0, 1) := by decide +kernel
theorem dX4_status_51 : decode cX4_status 51 = .ok (.iadd, 1) := by decide +kernel
theorem dX4_status_52 : decode cX4_status 52 = .ok (.istore_n 2, 1) := by decide +kernel
theorem dX4_status_53 : decode cX4_status 53 = .ok (.iinc 3 1, 3) := by decide +kernel
theorem dX4_status_56 : decode cX4_status 56 = .ok (.goto (-31), 3) := by decide +kernel
theorem dX4_status_59 : decode cX4_status 59 = .ok (.iload_n 2, 1) := by decide +kernel
theorem dX4_status_60 : decode cX4_status 60 = .ok (.ireturn, 1) := by decide +kernel
end
section
theorem dL_law_0 : decode cL_law 0 = .ok (.new 7, 3) := by decide +kernel
theorem dL_law_3 : decode cL_law 3 = .ok (.dup, 1) := by decide +kernel
theorem dL_law_4 : decode cL_law 4 = .ok (.invokespecial 9, 3) := by decide +kernel
theorem dL_law_7 : decode cL_law 7 = .ok (.astore_n 1, 1) := by decide +kernel
theorem dL_law_8 : decode cL_law 8 = .ok (.new 10, 3) := by decide +kernel
theorem dL_law_11 : decode cL_law 11 = .ok (.dup, 1) := by decide +kernel
theorem dL_law_12 : decode cL_law 12 = .ok (.invokespecial 12, 3) := by decide +kernel
theorem dL_law_15 : decode cL_law 15 = .ok (.astore_n 2, 1) := by decide +kernel
theorem dL_law_16 : decode cL_law 16 = .ok (.iconst 0, 1) := by decide +kernel
theorem dL_law_17 : decode cL_law 17 = .ok (.istore_n 3, 1) := by decide +kernel
theorem dL_law_18 : decode cL_law 18 = .ok (.iload_n 3, 1) := by decide +kernel
theorem dL_law_19 : decode cL_law 19 = .ok (.aload_n 0, 1) := by decide +kernel
theorem dL_law_20 : decode cL_law 20 = .ok (.arraylength, 1) := by decide +kernel
theorem dL_law_21 : decode cL_law 21 = .ok (.bipush 6, 2) := by decide +kernel
theorem dL_law_23 : decode cL_law 23 = .ok (.isub, 1) := by decide +kernel
theorem dL_law_24 : decode cL_law 24 = .ok (.if_icmp .gt 1196, 3) := by decide +kernel
theorem dL_law_27 : decode cL_law 27 = .ok (.aload_n 0, 1) := by decide +kernel
theorem dL_law_28 : decode cL_law 28 = .ok (.iload_n 3, 1) := by decide +kernel
theorem dL_law_29 : decode cL_law 29 = .ok (.iaload, 1) := by decide +kernel
theorem dL_law_30 : decode cL_law 30 = .ok (.bipush 63, 2) := by decide +kernel
theorem dL_law_32 : decode cL_law 32 = .ok (.iand, 1) := by decide +kernel
theorem dL_law_33 : decode cL_law 33 = .ok (.tableswitch 1181 0 34 #[155, 178, 201, 224, 267, 300, 343, 366, 399, 432, 455, 498, 521, 534, 557, 580, 613, 646, 679, 702, 735, 768, 801, 814, 827, 870, 944, 1007, 1030, 1063, 1096, 1109, 1122, 1135, 1158], 155) := by decide +kernel
theorem dL_law_188 : decode cL_law 188 = .ok (.aload_n 1, 1) := by decide +kernel
theorem dL_law_189 : decode cL_law 189 = .ok (.aload_n 0, 1) := by decide +kernel
theorem dL_law_190 : decode cL_law 190 = .ok (.iload_n 3, 1) := by decide +kernel
theorem dL_law_191 : decode cL_law 191 = .ok (.iconst 1, 1) := by decide +kernel
theorem dL_law_192 : decode cL_law 192 = .ok (.iadd, 1) := by decide +kernel
theorem dL_law_193 : decode cL_law 193 = .ok (.iaload, 1) := by decide +kernel
theorem dL_law_194 : decode cL_law 194 = .ok (.invokevirtual 13, 3) := by decide +kernel
theorem dL_law_197 : decode cL_law 197 = .ok (.aload_n 2, 1) := by decide +kernel
theorem dL_law_198 : decode cL_law 198 = .ok (.aload_n 0, 1) := by decide +kernel
theorem dL_law_199 : decode cL_law 199 = .ok (.iload_n 3, 1) := by decide +kernel
theorem dL_law_200 : decode cL_law 200 = .ok (.iconst 1, 1) := by decide +kernel
theorem dL_law_201 : decode cL_law 201 = .ok (.iadd, 1) := by decide +kernel
theorem dL_law_202 : decode cL_law 202 = .ok (.iaload, 1) := by decide +kernel
theorem dL_law_203 : decode cL_law 203 = .ok (.invokevirtual 17, 3) := by decide +kernel
theorem dL_law_206 : decode cL_law 206 = .ok (.if_icmp .eq 1008, 3) := by decide +kernel
theorem dL_law_209 : decode cL_law 209 = .ok (.iconst 0, 1) := by decide +kernel
theorem dL_law_210 : decode cL_law 210 = .ok (.ireturn, 1) := by decide +kernel
theorem dL_law_211 : decode cL_law 211 = .ok (.aload_n 1, 1) := by decide +kernel
theorem dL_law_212 : decode cL_law 212 = .ok (.aload_n 0, 1) := by decide +kernel
theorem dL_law_213 : decode cL_law 213 = .ok (.iload_n 3, 1) := by decide +kernel
theorem dL_law_214 : decode cL_law 214 = .ok (.iconst 1, 1) := by decide +kernel
theorem dL_law_215 : decode cL_law 215 = .ok (.iadd, 1) := by decide +kernel
theorem dL_law_216 : decode cL_law 216 = .ok (.iaload, 1) := by decide +kernel
theorem dL_law_217 : decode cL_law 217 = .ok (.invokevirtual 18, 3) := by decide +kernel
theorem dL_law_220 : decode cL_law 220 = .ok (.aload_n 2, 1) := by decide +kernel
theorem dL_law_221 : decode cL_law 221 = .ok (.aload_n 0, 1) := by decide +kernel
theorem dL_law_222 : decode cL_law 222 = .ok (.iload_n 3, 1) := by decide +kernel
theorem dL_law_223 : decode cL_law 223 = .ok (.iconst 1, 1) := by decide +kernel
theorem dL_law_224 : decode cL_law 224 = .ok (.iadd, 1) := by decide +kernel
theorem dL_law_225 : decode cL_law 225 = .ok (.iaload, 1) := by decide +kernel
theorem dL_law_226 : decode cL_law 226 = .ok (.invokevirtual 21, 3) := by decide +kernel
theorem dL_law_229 : decode cL_law 229 = .ok (.if_icmp .eq 985, 3) := by decide +kernel
theorem dL_law_232 : decode cL_law 232 = .ok (.iconst 0, 1) := by decide +kernel
theorem dL_law_233 : decode cL_law 233 = .ok (.ireturn, 1) := by decide +kernel
theorem dL_law_234 : decode cL_law 234 = .ok (.aload_n 1, 1) := by decide +kernel
theorem dL_law_235 : decode cL_law 235 = .ok (.aload_n 0, 1) := by decide +kernel
theorem dL_law_236 : decode cL_law 236 = .ok (.iload_n 3, 1) := by decide +kernel
theorem dL_law_237 : decode cL_law 237 = .ok (.iconst 1, 1) := by decide +kernel
theorem dL_law_238 : decode cL_law 238 = .ok (.iadd, 1) := by decide +kernel
theorem dL_law_239 : decode cL_law 239 = .ok (.iaload, 1) := by decide +kernel
theorem dL_law_240 : decode cL_law 240 = .ok (.invokevirtual 22, 3) := by decide +kernel
theorem dL_law_243 : decode cL_law 243 = .ok (.aload_n 2, 1) := by decide +kernel
theorem dL_law_244 : decode cL_law 244 = .ok (.aload_n 0, 1) := by decide +kernel
theorem dL_law_245 : decode cL_law 245 = .ok (.iload_n 3, 1) := by decide +kernel
theorem dL_law_246 : decode cL_law 246 = .ok (.iconst 1, 1) := by decide +kernel
theorem dL_law_247 : decode cL_law 247 = .ok (.iadd, 1) := by decide +kernel
theorem dL_law_248 : decode cL_law 248 = .ok (.iaload, 1) := by decide +kernel
theorem dL_law_249 : decode cL_law 249 = .ok (.invokevirtual 25, 3) := by decide +kernel
theorem dL_law_252 : decode cL_law 252 = .ok (.if_icmp .eq 962, 3) := by decide +kernel
theorem dL_law_255 : decode cL_law 255 = .ok (.iconst 0, 1) := by decide +kernel
theorem dL_law_256 : decode cL_law 256 = .ok (.ireturn, 1) := by decide +kernel
theorem dL_law_257 : decode cL_law 257 = .ok (.aload_n 1, 1) := by decide +kernel
theorem dL_law_258 : decode cL_law 258 = .ok (.aload_n 0, 1) := by decide +kernel
theorem dL_law_259 : decode cL_law 259 = .ok (.iload_n 3, 1) := by decide +kernel
theorem dL_law_260 : decode cL_law 260 = .ok (.iconst 1, 1) := by decide +kernel
theorem dL_law_261 : decode cL_law 261 = .ok (.iadd, 1) := by decide +kernel
theorem dL_law_262 : decode cL_law 262 = .ok (.iaload, 1) := by decide +kernel
theorem dL_law_263 : decode cL_law 263 = .ok (.aload_n 0, 1) := by decide +kernel
theorem dL_law_264 : decode cL_law 264 = .ok (.iload_n 3, 1) := by decide +kernel
theorem dL_law_265 : decode cL_law 265 = .ok (.iconst 2, 1) := by decide +kernel
theorem dL_law_266 : decode cL_law 266 = .ok (.iadd, 1) := by decide +kernel
theorem dL_law_267 : decode cL_law 267 = .ok (.iaload, 1) := by decide +kernel
theorem dL_law_268 : decode cL_law 268 = .ok (.aload_n 0, 1) := by decide +kernel
theorem dL_law_269 : decode cL_law 269 = .ok (.iload_n 3, 1) := by decide +kernel
theorem dL_law_270 : decode cL_law 270 = .ok (.iconst 3, 1) := by decide +kernel
theorem dL_law_271 : decode cL_law 271 = .ok (.iadd, 1) := by decide +kernel
theorem dL_law_272 : decode cL_law 272 = .ok (.iaload, 1) := by decide +kernel
theorem dL_law_273 : decode cL_law 273 = .ok (.invokevirtual 26, 3) := by decide +kernel
theorem dL_law_276 : decode cL_law 276 = .ok (.aload_n 2, 1) := by decide +kernel
theorem dL_law_277 : decode cL_law 277 = .ok (.aload_n 0, 1) := by decide +kernel
theorem dL_law_278 : decode cL_law 278 = .ok (.iload_n 3, 1) := by decide +kernel
theorem dL_law_279 : decode cL_law 279 = .ok (.iconst 1, 1) := by decide +kernel
theorem dL_law_280 : decode cL_law 280 = .ok (.iadd, 1) := by decide +kernel
theorem dL_law_281 : decode cL_law 281 = .ok (.iaload, 1) := by decide +kernel
theorem dL_law_282 : decode cL_law 282 = .ok (.aload_n 0, 1) := by decide +kernel
theorem dL_law_283 : decode cL_law 283 = .ok (.iload_n 3, 1) := by decide +kernel
theorem dL_law_284 : decode cL_law 284 = .ok (.iconst 2, 1) := by decide +kernel
theorem dL_law_285 : decode cL_law 285 = .ok (.iadd, 1) := by decide +kernel
theorem dL_law_286 : decode cL_law 286 = .ok (.iaload, 1) := by decide +kernel
theorem dL_law_287 : decode cL_law 287 = .ok (.aload_n 0, 1) := by decide +kernel
theorem dL_law_288 : decode cL_law 288 = .ok (.iload_n 3, 1) := by decide +kernel
theorem dL_law_289 : decode cL_law 289 = .ok (.iconst 3, 1) := by decide +kernel
theorem dL_law_290 : decode cL_law 290 = .ok (.iadd, 1) := by decide +kernel
theorem dL_law_291 : decode cL_law 291 = .ok (.iaload, 1) := by decide +kernel
theorem dL_law_292 : decode cL_law 292 = .ok (.invokevirtual 30, 3) := by decide +kernel
theorem dL_law_295 : decode cL_law 295 = .ok (.if_icmp .eq 919, 3) := by decide +kernel
theorem dL_law_298 : decode cL_law 298 = .ok (.iconst 0, 1) := by decide +kernel
theorem dL_law_299 : decode cL_law 299 = .ok (.ireturn, 1) := by decide +kernel
theorem dL_law_300 : decode cL_law 300 = .ok (.aload_n 1, 1) := by decide +kernel
theorem dL_law_301 : decode cL_law 301 = .ok (.aload_n 0, 1) := by decide +kernel
theorem dL_law_302 : decode cL_law 302 = .ok (.iload_n 3, 1) := by decide +kernel
theorem dL_law_303 : decode cL_law 303 = .ok (.iconst 1, 1) := by decide +kernel
theorem dL_law_304 : decode cL_law 304 = .ok (.iadd, 1) := by decide +kernel
theorem dL_law_305 : decode cL_law 305 = .ok (.iaload, 1) := by decide +kernel
theorem dL_law_306 : decode cL_law 306 = .ok (.aload_n 0, 1) := by decide +kernel
theorem dL_law_307 : decode cL_law 307 = .ok (.iload_n 3, 1) := by decide +kernel
theorem dL_law_308 : decode cL_law 308 = .ok (.iconst 2, 1) := by decide +kernel
theorem dL_law_309 : decode cL_law 309 = .ok (.iadd, 1) := by decide +kernel
theorem dL_law_310 : decode cL_law 310 = .ok (.iaload, 1) := by decide +kernel
theorem dL_law_311 : decode cL_law 311 = .ok (.invokevirtual 31, 3) := by decide +kernel
theorem dL_law_314 : decode cL_law 314 = .ok (.aload_n 2, 1) := by decide +kernel
theorem dL_law_315 : decode cL_law 315 = .ok (.aload_n 0, 1) := by decide +kernel
theorem dL_law_316 : decode cL_law 316 = .ok (.iload_n 3, 1) := by decide +kernel
theorem dL_law_317 : decode cL_law 317 = .ok (.iconst 1, 1) := by decide +kernel
theorem dL_law_318 : decode cL_law 318 = .ok (.iadd, 1) := by decide +kernel
theorem dL_law_319 : decode cL_law 319 = .ok (.iaload, 1) := by decide +kernel
theorem dL_law_320 : decode cL_law 320 = .ok (.aload_n 0, 1) := by decide +kernel
theorem dL_law_321 : decode cL_law 321 = .ok (.iload_n 3, 1) := by decide +kernel
theorem dL_law_322 : decode cL_law 322 = .ok (.iconst 2, 1) := by decide +kernel
theorem dL_law_323 : decode cL_law 323 = .ok (.iadd, 1) := by decide +kernel
theorem dL_law_324 : decode cL_law 324 = .ok (.iaload, 1) := by decide +kernel
theorem dL_law_325 : decode cL_law 325 = .ok (.invokevirtual 35, 3) := by decide +kernel
theorem dL_law_328 : decode cL_law 328 = .ok (.if_icmp .eq 886, 3) := by decide +kernel
theorem dL_law_331 : decode cL_law 331 = .ok (.iconst 0, 1) := by decide +kernel
theorem dL_law_332 : decode cL_law 332 = .ok (.ireturn, 1) := by decide +kernel
theorem dL_law_333 : decode cL_law 333 = .ok (.aload_n 1, 1) := by decide +kernel
theorem dL_law_334 : decode cL_law 334 = .ok (.aload_n 0, 1) := by decide +kernel
theorem dL_law_335 : decode cL_law 335 = .ok (.iload_n 3, 1) := by decide +kernel
theorem dL_law_336 : decode cL_law 336 = .ok (.iconst 1, 1) := by decide +kernel
theorem dL_law_337 : decode cL_law 337 = .ok (.iadd, 1) := by decide +kernel
theorem dL_law_338 : decode cL_law 338 = .ok (.iaload, 1) := by decide +kernel
theorem dL_law_339 : decode cL_law 339 = .ok (.aload_n 0, 1) := by decide +kernel
theorem dL_law_340 : decode cL_law 340 = .ok (.iload_n 3, 1) := by decide +kernel
theorem dL_law_341 : decode cL_law 341 = .ok (.iconst 2, 1) := by decide +kernel
theorem dL_law_342 : decode cL_law 342 = .ok (.iadd, 1) := by decide +kernel
theorem dL_law_343 : decode cL_law 343 = .ok (.iaload, 1) := by decide +kernel
theorem dL_law_344 : decode cL_law 344 = .ok (.aload_n 0, 1) := by decide +kernel
theorem dL_law_345 : decode cL_law 345 = .ok (.iload_n 3, 1) := by decide +kernel
theorem dL_law_346 : decode cL_law 346 = .ok (.iconst 3, 1) := by decide +kernel
theorem dL_law_347 : decode cL_law 347 = .ok (.iadd, 1) := by decide +kernel
theorem dL_law_348 : decode cL_law 348 = .ok (.iaload, 1) := by decide +kernel
theorem dL_law_349 : decode cL_law 349 = .ok (.invokevirtual 36, 3) := by decide +kernel
theorem dL_law_352 : decode cL_law 352 = .ok (.aload_n 2, 1) := by decide +kernel
theorem dL_law_353 : decode cL_law 353 = .ok (.aload_n 0, 1) := by decide +kernel
theorem dL_law_354 : decode cL_law 354 = .ok (.iload_n 3, 1) := by decide +kernel
theorem dL_law_355 : decode cL_law 355 = .ok (.iconst 1, 1) := by decide +kernel
theorem dL_law_356 : decode cL_law 356 = .ok (.iadd, 1) := by decide +kernel
theorem dL_law_357 : decode cL_law 357 = .ok (.iaload, 1) := by decide +kernel
theorem dL_law_358 : decode cL_law 358 = .ok (.aload_n 0, 1) := by decide +kernel
theorem dL_law_359 : decode cL_law 359 = .ok (.iload_n 3, 1) := by decide +kernel
theorem dL_law_360 : decode cL_law 360 = .ok (.iconst 2, 1) := by decide +kernel
theorem dL_law_361 : decode cL_law 361 = .ok (.iadd, 1) := by decide +kernel
theorem dL_law_362 : decode cL_law 362 = .ok (.iaload, 1) := by decide +kernel
theorem dL_law_363 : decode cL_law 363 = .ok (.aload_n 0, 1) := by decide +kernel
theorem dL_law_364 : decode cL_law 364 = .ok (.iload_n 3, 1) := by decide +kernel
theorem dL_law_365 : decode cL_law 365 = .ok (.iconst 3, 1) := by decide +kernel
theorem dL_law_366 : decode cL_law 366 = .ok (.iadd, 1) := by decide +kernel
theorem dL_law_367 : decode cL_law 367 = .ok (.iaload, 1) := by decide +kernel
theorem dL_law_368 : decode cL_law 368 = .ok (.invokevirtual 39, 3) := by decide +kernel
theorem dL_law_371 : decode cL_law 371 = .ok (.if_icmp .eq 843, 3) := by decide +kernel
theorem dL_law_374 : decode cL_law 374 = .ok (.iconst 0, 1) := by decide +kernel
theorem dL_law_375 : decode cL_law 375 = .ok (.ireturn, 1) := by decide +kernel
theorem dL_law_376 : decode cL_law 376 = .ok (.aload_n 1, 1) := by decide +kernel
theorem dL_law_377 : decode cL_law 377 = .ok (.aload_n 0, 1) := by decide +kernel
theorem dL_law_378 : decode cL_law 378 = .ok (.iload_n 3, 1) := by decide +kernel
theorem dL_law_379 : decode cL_law 379 = .ok (.iconst 1, 1) := by decide +kernel
theorem dL_law_380 : decode cL_law 380 = .ok (.iadd, 1) := by decide +kernel
theorem dL_law_381 : decode cL_law 381 = .ok (.iaload, 1) := by decide +kernel
theorem dL_law_382 : decode cL_law 382 = .ok (.invokevirtual 40, 3) := by decide +kernel
theorem dL_law_385 : decode cL_law 385 = .ok (.aload_n 2, 1) := by decide +kernel
theorem dL_law_386 : decode cL_law 386 = .ok (.aload_n 0, 1) := by decide +kernel
theorem dL_law_387 : decode cL_law 387 = .ok (.iload_n 3, 1) := by decide +kernel
theorem dL_law_388 : decode cL_law 388 = .ok (.iconst 1, 1) := by decide +kernel
theorem dL_law_389 : decode cL_law 389 = .ok (.iadd, 1) := by decide +kernel
theorem dL_law_390 : decode cL_law 390 = .ok (.iaload, 1) := by decide +kernel
theorem dL_law_391 : decode cL_law 391 = .ok (.invokevirtual 43, 3) := by decide +kernel
theorem dL_law_394 : decode cL_law 394 = .ok (.if_icmp .eq 820, 3) := by decide +kernel
theorem dL_law_397 : decode cL_law 397 = .ok (.iconst 0, 1) := by decide +kernel
theorem dL_law_398 : decode cL_law 398 = .ok (.ireturn, 1) := by decide +kernel
theorem dL_law_399 : decode cL_law 399 = .ok (.aload_n 1, 1) := by decide +kernel
theorem dL_law_400 : decode cL_law 400 = .ok (.aload_n 0, 1) := by decide +kernel
theorem dL_law_401 : decode cL_law 401 = .ok (.iload_n 3, 1) := by decide +kernel
theorem dL_law_402 : decode cL_law 402 = .ok (.iconst 1, 1) := by decide +kernel
theorem dL_law_403 : decode cL_law 403 = .ok (.iadd, 1) := by decide +kernel
theorem dL_law_404 : decode cL_law 404 = .ok (.iaload, 1) := by decide +kernel
theorem dL_law_405 : decode cL_law 405 = .ok (.aload_n 0, 1) := by decide +kernel
theorem dL_law_406 : decode cL_law 406 = .ok (.iload_n 3, 1) := by decide +kernel
theorem dL_law_407 : decode cL_law 407 = .ok (.iconst 2, 1) := by decide +kernel
theorem dL_law_408 : decode cL_law 408 = .ok (.iadd, 1) := by decide +kernel
theorem dL_law_409 : decode cL_law 409 = .ok (.iaload, 1) := by decide +kernel
theorem dL_law_410 : decode cL_law 410 = .ok (.invokevirtual 44, 3) := by decide +kernel
theorem dL_law_413 : decode cL_law 413 = .ok (.aload_n 2, 1) := by decide +kernel
theorem dL_law_414 : decode cL_law 414 = .ok (.aload_n 0, 1) := by decide +kernel
theorem dL_law_415 : decode cL_law 415 = .ok (.iload_n 3, 1) := by decide +kernel
theorem dL_law_416 : decode cL_law 416 = .ok (.iconst 1, 1) := by decide +kernel
theorem dL_law_417 : decode cL_law 417 = .ok (.iadd, 1) := by decide +kernel
theorem dL_law_418 : decode cL_law 418 = .ok (.iaload, 1) := by decide +kernel
theorem dL_law_419 : decode cL_law 419 = .ok (.aload_n 0, 1) := by decide +kernel
theorem dL_law_420 : decode cL_law 420 = .ok (.iload_n 3, 1) := by decide +kernel
theorem dL_law_421 : decode cL_law 421 = .ok (.iconst 2, 1) := by decide +kernel
theorem dL_law_422 : decode cL_law 422 = .ok (.iadd, 1) := by decide +kernel
theorem dL_law_423 : decode cL_law 423 = .ok (.iaload, 1) := by decide +kernel
theorem dL_law_424 : decode cL_law 424 = .ok (.invokevirtual 47, 3) := by decide +kernel
theorem dL_law_427 : decode cL_law 427 = .ok (.if_icmp .eq 787, 3) := by decide +kernel
theorem dL_law_430 : decode cL_law 430 = .ok (.iconst 0, 1) := by decide +kernel
theorem dL_law_431 : decode cL_law 431 = .ok (.ireturn, 1) := by decide +kernel
theorem dL_law_432 : decode cL_law 432 = .ok (.aload_n 1, 1) := by decide +kernel
theorem dL_law_433 : decode cL_law 433 = .ok (.aload_n 0, 1) := by decide +kernel
theorem dL_law_434 : decode cL_law 434 = .ok (.iload_n 3, 1) := by decide +kernel
theorem dL_law_435 : decode cL_law 435 = .ok (.iconst 1, 1) := by decide +kernel
theorem dL_law_436 : decode cL_law 436 = .ok (.iadd, 1) := by decide +kernel
theorem dL_law_437 : decode cL_law 437 = .ok (.iaload, 1) := by decide +kernel
theorem dL_law_438 : decode cL_law 438 = .ok (.aload_n 0, 1) := by decide +kernel
theorem dL_law_439 : decode cL_law 439 = .ok (.iload_n 3, 1) := by decide +kernel
theorem dL_law_440 : decode cL_law 440 = .ok (.iconst 2, 1) := by decide +kernel
theorem dL_law_441 : decode cL_law 441 = .ok (.iadd, 1) := by decide +kernel
theorem dL_law_442 : decode cL_law 442 = .ok (.iaload, 1) := by decide +kernel
theorem dL_law_443 : decode cL_law 443 = .ok (.invokevirtual 48, 3) := by decide +kernel
theorem dL_law_446 : decode cL_law 446 = .ok (.aload_n 2, 1) := by decide +kernel
theorem dL_law_447 : decode cL_law 447 = .ok (.aload_n 0, 1) := by decide +kernel
theorem dL_law_448 : decode cL_law 448 = .ok (.iload_n 3, 1) := by decide +kernel
theorem dL_law_449 : decode cL_law 449 = .ok (.iconst 1, 1) := by decide +kernel
theorem dL_law_450 : decode cL_law 450 = .ok (.iadd, 1) := by decide +kernel
theorem dL_law_451 : decode cL_law 451 = .ok (.iaload, 1) := by decide +kernel
theorem dL_law_452 : decode cL_law 452 = .ok (.aload_n 0, 1) := by decide +kernel
theorem dL_law_453 : decode cL_law 453 = .ok (.iload_n 3, 1) := by decide +kernel
theorem dL_law_454 : decode cL_law 454 = .ok (.iconst 2, 1) := by decide +kernel
theorem dL_law_455 : decode cL_law 455 = .ok (.iadd, 1) := by decide +kernel
theorem dL_law_456 : decode cL_law 456 = .ok (.iaload, 1) := by decide +kernel
theorem dL_law_457 : decode cL_law 457 = .ok (.invokevirtual 51, 3) := by decide +kernel
theorem dL_law_460 : decode cL_law 460 = .ok (.if_icmp .eq 754, 3) := by decide +kernel
theorem dL_law_463 : decode cL_law 463 = .ok (.iconst 0, 1) := by decide +kernel
theorem dL_law_464 : decode cL_law 464 = .ok (.ireturn, 1) := by decide +kernel
theorem dL_law_465 : decode cL_law 465 = .ok (.aload_n 1, 1) := by decide +kernel
theorem dL_law_466 : decode cL_law 466 = .ok (.aload_n 0, 1) := by decide +kernel
theorem dL_law_467 : decode cL_law 467 = .ok (.iload_n 3, 1) := by decide +kernel
theorem dL_law_468 : decode cL_law 468 = .ok (.iconst 1, 1) := by decide +kernel
theorem dL_law_469 : decode cL_law 469 = .ok (.iadd, 1) := by decide +kernel
theorem dL_law_470 : decode cL_law 470 = .ok (.iaload, 1) := by decide +kernel
theorem dL_law_471 : decode cL_law 471 = .ok (.invokevirtual 52, 3) := by decide +kernel
theorem dL_law_474 : decode cL_law 474 = .ok (.aload_n 2, 1) := by decide +kernel
theorem dL_law_475 : decode cL_law 475 = .ok (.aload_n 0, 1) := by decide +kernel
theorem dL_law_476 : decode cL_law 476 = .ok (.iload_n 3, 1) := by decide +kernel
theorem dL_law_477 : decode cL_law 477 = .ok (.iconst 1, 1) := by decide +kernel
theorem dL_law_478 : decode cL_law 478 = .ok (.iadd, 1) := by decide +kernel
theorem dL_law_479 : decode cL_law 479 = .ok (.iaload, 1) := by decide +kernel
theorem dL_law_480 : decode cL_law 480 = .ok (.invokevirtual 55, 3) := by decide +kernel
theorem dL_law_483 : decode cL_law 483 = .ok (.if_icmp .eq 731, 3) := by decide +kernel
theorem dL_law_486 : decode cL_law 486 = .ok (.iconst 0, 1) := by decide +kernel
theorem dL_law_487 : decode cL_law 487 = .ok (.ireturn, 1) := by decide +kernel
theorem dL_law_488 : decode cL_law 488 = .ok (.aload_n 1, 1) := by decide +kernel
theorem dL_law_489 : decode cL_law 489 = .ok (.aload_n 0, 1) := by decide +kernel
theorem dL_law_490 : decode cL_law 490 = .ok (.iload_n 3, 1) := by decide +kernel
theorem dL_law_491 : decode cL_law 491 = .ok (.iconst 1, 1) := by decide +kernel
theorem dL_law_492 : decode cL_law 492 = .ok (.iadd, 1) := by decide +kernel
theorem dL_law_493 : decode cL_law 493 = .ok (.iaload, 1) := by decide +kernel
theorem dL_law_494 : decode cL_law 494 = .ok (.aload_n 0, 1) := by decide +kernel
theorem dL_law_495 : decode cL_law 495 = .ok (.iload_n 3, 1) := by decide +kernel
theorem dL_law_496 : decode cL_law 496 = .ok (.iconst 2, 1) := by decide +kernel
theorem dL_law_497 : decode cL_law 497 = .ok (.iadd, 1) := by decide +kernel
theorem dL_law_498 : decode cL_law 498 = .ok (.iaload, 1) := by decide +kernel
theorem dL_law_499 : decode cL_law 499 = .ok (.aload_n 0, 1) := by decide +kernel
theorem dL_law_500 : decode cL_law 500 = .ok (.iload_n 3, 1) := by decide +kernel
theorem dL_law_501 : decode cL_law 501 = .ok (.iconst 3, 1) := by decide +kernel
theorem dL_law_502 : decode cL_law 502 = .ok (.iadd, 1) := by decide +kernel
theorem dL_law_503 : decode cL_law 503 = .ok (.iaload, 1) := by decide +kernel
theorem dL_law_504 : decode cL_law 504 = .ok (.invokevirtual 56, 3) := by decide +kernel
theorem dL_law_507 : decode cL_law 507 = .ok (.aload_n 2, 1) := by decide +kernel
theorem dL_law_508 : decode cL_law 508 = .ok (.aload_n 0, 1) := by decide +kernel
theorem dL_law_509 : decode cL_law 509 = .ok (.iload_n 3, 1) := by decide +kernel
theorem dL_law_510 : decode cL_law 510 = .ok (.iconst 1, 1) := by decide +kernel
theorem dL_law_511 : decode cL_law 511 = .ok (.iadd, 1) := by decide +kernel
theorem dL_law_512 : decode cL_law 512 = .ok (.iaload, 1) := by decide +kernel
theorem dL_law_513 : decode cL_law 513 = .ok (.aload_n 0, 1) := by decide +kernel
theorem dL_law_514 : decode cL_law 514 = .ok (.iload_n 3, 1) := by decide +kernel
theorem dL_law_515 : decode cL_law 515 = .ok (.iconst 2, 1) := by decide +kernel
theorem dL_law_516 : decode cL_law 516 = .ok (.iadd, 1) := by decide +kernel
theorem dL_law_517 : decode cL_law 517 = .ok (.iaload, 1) := by decide +kernel
theorem dL_law_518 : decode cL_law 518 = .ok (.aload_n 0, 1) := by decide +kernel
theorem dL_law_519 : decode cL_law 519 = .ok (.iload_n 3, 1) := by decide +kernel
theorem dL_law_520 : decode cL_law 520 = .ok (.iconst 3, 1) := by decide +kernel
theorem dL_law_521 : decode cL_law 521 = .ok (.iadd, 1) := by decide +kernel
theorem dL_law_522 : decode cL_law 522 = .ok (.iaload, 1) := by decide +kernel
theorem dL_law_523 : decode cL_law 523 = .ok (.invokevirtual 59, 3) := by decide +kernel
theorem dL_law_526 : decode cL_law 526 = .ok (.if_icmp .eq 688, 3) := by decide +kernel
theorem dL_law_529 : decode cL_law 529 = .ok (.iconst 0, 1) := by decide +kernel
theorem dL_law_530 : decode cL_law 530 = .ok (.ireturn, 1) := by decide +kernel
theorem dL_law_531 : decode cL_law 531 = .ok (.aload_n 1, 1) := by decide +kernel
theorem dL_law_532 : decode cL_law 532 = .ok (.aload_n 0, 1) := by decide +kernel
theorem dL_law_533 : decode cL_law 533 = .ok (.iload_n 3, 1) := by decide +kernel
theorem dL_law_534 : decode cL_law 534 = .ok (.iconst 1, 1) := by decide +kernel
theorem dL_law_535 : decode cL_law 535 = .ok (.iadd, 1) := by decide +kernel
theorem dL_law_536 : decode cL_law 536 = .ok (.iaload, 1) := by decide +kernel
theorem dL_law_537 : decode cL_law 537 = .ok (.invokevirtual 60, 3) := by decide +kernel
theorem dL_law_540 : decode cL_law 540 = .ok (.aload_n 2, 1) := by decide +kernel
theorem dL_law_541 : decode cL_law 541 = .ok (.aload_n 0, 1) := by decide +kernel
theorem dL_law_542 : decode cL_law 542 = .ok (.iload_n 3, 1) := by decide +kernel
theorem dL_law_543 : decode cL_law 543 = .ok (.iconst 1, 1) := by decide +kernel
theorem dL_law_544 : decode cL_law 544 = .ok (.iadd, 1) := by decide +kernel
theorem dL_law_545 : decode cL_law 545 = .ok (.iaload, 1) := by decide +kernel
theorem dL_law_546 : decode cL_law 546 = .ok (.invokevirtual 63, 3) := by decide +kernel
theorem dL_law_549 : decode cL_law 549 = .ok (.if_icmp .eq 665, 3) := by decide +kernel
theorem dL_law_552 : decode cL_law 552 = .ok (.iconst 0, 1) := by decide +kernel
theorem dL_law_553 : decode cL_law 553 = .ok (.ireturn, 1) := by decide +kernel
theorem dL_law_554 : decode cL_law 554 = .ok (.aload_n 1, 1) := by decide +kernel
theorem dL_law_555 : decode cL_law 555 = .ok (.invokevirtual 64, 3) := by decide +kernel
theorem dL_law_558 : decode cL_law 558 = .ok (.aload_n 2, 1) := by decide +kernel
theorem dL_law_559 : decode cL_law 559 = .ok (.invokevirtual 68, 3) := by decide +kernel
theorem dL_law_562 : decode cL_law 562 = .ok (.if_icmp .eq 652, 3) := by decide +kernel
theorem dL_law_565 : decode cL_law 565 = .ok (.iconst 0, 1) := by decide +kernel
theorem dL_law_566 : decode cL_law 566 = .ok (.ireturn, 1) := by decide +kernel
theorem dL_law_567 : decode cL_law 567 = .ok (.aload_n 1, 1) := by decide +kernel
theorem dL_law_568 : decode cL_law 568 = .ok (.aload_n 0, 1) := by decide +kernel
theorem dL_law_569 : decode cL_law 569 = .ok (.iload_n 3, 1) := by decide +kernel
theorem dL_law_570 : decode cL_law 570 = .ok (.iconst 1, 1) := by decide +kernel
theorem dL_law_571 : decode cL_law 571 = .ok (.iadd, 1) := by decide +kernel
theorem dL_law_572 : decode cL_law 572 = .ok (.iaload, 1) := by decide +kernel
theorem dL_law_573 : decode cL_law 573 = .ok (.invokevirtual 69, 3) := by decide +kernel
theorem dL_law_576 : decode cL_law 576 = .ok (.aload_n 2, 1) := by decide +kernel
theorem dL_law_577 : decode cL_law 577 = .ok (.aload_n 0, 1) := by decide +kernel
theorem dL_law_578 : decode cL_law 578 = .ok (.iload_n 3, 1) := by decide +kernel
theorem dL_law_579 : decode cL_law 579 = .ok (.iconst 1, 1) := by decide +kernel
theorem dL_law_580 : decode cL_law 580 = .ok (.iadd, 1) := by decide +kernel
theorem dL_law_581 : decode cL_law 581 = .ok (.iaload, 1) := by decide +kernel
theorem dL_law_582 : decode cL_law 582 = .ok (.invokevirtual 72, 3) := by decide +kernel
theorem dL_law_585 : decode cL_law 585 = .ok (.if_icmp .eq 629, 3) := by decide +kernel
theorem dL_law_588 : decode cL_law 588 = .ok (.iconst 0, 1) := by decide +kernel
theorem dL_law_589 : decode cL_law 589 = .ok (.ireturn, 1) := by decide +kernel
theorem dL_law_590 : decode cL_law 590 = .ok (.aload_n 1, 1) := by decide +kernel
theorem dL_law_591 : decode cL_law 591 = .ok (.aload_n 0, 1) := by decide +kernel
theorem dL_law_592 : decode cL_law 592 = .ok (.iload_n 3, 1) := by decide +kernel
theorem dL_law_593 : decode cL_law 593 = .ok (.iconst 1, 1) := by decide +kernel
theorem dL_law_594 : decode cL_law 594 = .ok (.iadd, 1) := by decide +kernel
theorem dL_law_595 : decode cL_law 595 = .ok (.iaload, 1) := by decide +kernel
theorem dL_law_596 : decode cL_law 596 = .ok (.invokevirtual 73, 3) := by decide +kernel
theorem dL_law_599 : decode cL_law 599 = .ok (.aload_n 2, 1) := by decide +kernel
theorem dL_law_600 : decode cL_law 600 = .ok (.aload_n 0, 1) := by decide +kernel
theorem dL_law_601 : decode cL_law 601 = .ok (.iload_n 3, 1) := by decide +kernel
theorem dL_law_602 : decode cL_law 602 = .ok (.iconst 1, 1) := by decide +kernel
theorem dL_law_603 : decode cL_law 603 = .ok (.iadd, 1) := by decide +kernel
theorem dL_law_604 : decode cL_law 604 = .ok (.iaload, 1) := by decide +kernel
theorem dL_law_605 : decode cL_law 605 = .ok (.invokevirtual 76, 3) := by decide +kernel
theorem dL_law_608 : decode cL_law 608 = .ok (.if_icmp .eq 606, 3) := by decide +kernel
theorem dL_law_611 : decode cL_law 611 = .ok (.iconst 0, 1) := by decide +kernel
theorem dL_law_612 : decode cL_law 612 = .ok (.ireturn, 1) := by decide +kernel
theorem dL_law_613 : decode cL_law 613 = .ok (.aload_n 1, 1) := by decide +kernel
theorem dL_law_614 : decode cL_law 614 = .ok (.aload_n 0, 1) := by decide +kernel
theorem dL_law_615 : decode cL_law 615 = .ok (.iload_n 3, 1) := by decide +kernel
theorem dL_law_616 : decode cL_law 616 = .ok (.iconst 1, 1) := by decide +kernel
theorem dL_law_617 : decode cL_law 617 = .ok (.iadd, 1) := by decide +kernel
theorem dL_law_618 : decode cL_law 618 = .ok (.iaload, 1) := by decide +kernel
theorem dL_law_619 : decode cL_law 619 = .ok (.aload_n 0, 1) := by decide +kernel
theorem dL_law_620 : decode cL_law 620 = .ok (.iload_n 3, 1) := by decide +kernel
theorem dL_law_621 : decode cL_law 621 = .ok (.iconst 2, 1) := by decide +kernel
theorem dL_law_622 : decode cL_law 622 = .ok (.iadd, 1) := by decide +kernel
theorem dL_law_623 : decode cL_law 623 = .ok (.iaload, 1) := by decide +kernel
theorem dL_law_624 : decode cL_law 624 = .ok (.invokevirtual 77, 3) := by decide +kernel
theorem dL_law_627 : decode cL_law 627 = .ok (.aload_n 2, 1) := by decide +kernel
theorem dL_law_628 : decode cL_law 628 = .ok (.aload_n 0, 1) := by decide +kernel
theorem dL_law_629 : decode cL_law 629 = .ok (.iload_n 3, 1) := by decide +kernel
theorem dL_law_630 : decode cL_law 630 = .ok (.iconst 1, 1) := by decide +kernel
theorem dL_law_631 : decode cL_law 631 = .ok (.iadd, 1) := by decide +kernel
theorem dL_law_632 : decode cL_law 632 = .ok (.iaload, 1) := by decide +kernel
theorem dL_law_633 : decode cL_law 633 = .ok (.aload_n 0, 1) := by decide +kernel
theorem dL_law_634 : decode cL_law 634 = .ok (.iload_n 3, 1) := by decide +kernel
theorem dL_law_635 : decode cL_law 635 = .ok (.iconst 2, 1) := by decide +kernel
theorem dL_law_636 : decode cL_law 636 = .ok (.iadd, 1) := by decide +kernel
theorem dL_law_637 : decode cL_law 637 = .ok (.iaload, 1) := by decide +kernel
theorem dL_law_638 : decode cL_law 638 = .ok (.invokevirtual 80, 3) := by decide +kernel
theorem dL_law_641 : decode cL_law 641 = .ok (.if_icmp .eq 573, 3) := by decide +kernel
theorem dL_law_644 : decode cL_law 644 = .ok (.iconst 0, 1) := by decide +kernel
theorem dL_law_645 : decode cL_law 645 = .ok (.ireturn, 1) := by decide +kernel
theorem dL_law_646 : decode cL_law 646 = .ok (.aload_n 1, 1) := by decide +kernel
theorem dL_law_647 : decode cL_law 647 = .ok (.aload_n 0, 1) := by decide +kernel
theorem dL_law_648 : decode cL_law 648 = .ok (.iload_n 3, 1) := by decide +kernel
theorem dL_law_649 : decode cL_law 649 = .ok (.iconst 1, 1) := by decide +kernel
theorem dL_law_650 : decode cL_law 650 = .ok (.iadd, 1) := by decide +kernel
theorem dL_law_651 : decode cL_law 651 = .ok (.iaload, 1) := by decide +kernel
theorem dL_law_652 : decode cL_law 652 = .ok (.aload_n 0, 1) := by decide +kernel
theorem dL_law_653 : decode cL_law 653 = .ok (.iload_n 3, 1) := by decide +kernel
theorem dL_law_654 : decode cL_law 654 = .ok (.iconst 2, 1) := by decide +kernel
theorem dL_law_655 : decode cL_law 655 = .ok (.iadd, 1) := by decide +kernel
theorem dL_law_656 : decode cL_law 656 = .ok (.iaload, 1) := by decide +kernel
theorem dL_law_657 : decode cL_law 657 = .ok (.invokevirtual 81, 3) := by decide +kernel
theorem dL_law_660 : decode cL_law 660 = .ok (.aload_n 2, 1) := by decide +kernel
theorem dL_law_661 : decode cL_law 661 = .ok (.aload_n 0, 1) := by decide +kernel
theorem dL_law_662 : decode cL_law 662 = .ok (.iload_n 3, 1) := by decide +kernel
theorem dL_law_663 : decode cL_law 663 = .ok (.iconst 1, 1) := by decide +kernel
theorem dL_law_664 : decode cL_law 664 = .ok (.iadd, 1) := by decide +kernel
theorem dL_law_665 : decode cL_law 665 = .ok (.iaload, 1) := by decide +kernel
theorem dL_law_666 : decode cL_law 666 = .ok (.aload_n 0, 1) := by decide +kernel
theorem dL_law_667 : decode cL_law 667 = .ok (.iload_n 3, 1) := by decide +kernel
theorem dL_law_668 : decode cL_law 668 = .ok (.iconst 2, 1) := by decide +kernel
theorem dL_law_669 : decode cL_law 669 = .ok (.iadd, 1) := by decide +kernel
theorem dL_law_670 : decode cL_law 670 = .ok (.iaload, 1) := by decide +kernel
theorem dL_law_671 : decode cL_law 671 = .ok (.invokevirtual 84, 3) := by decide +kernel
theorem dL_law_674 : decode cL_law 674 = .ok (.if_icmp .eq 540, 3) := by decide +kernel
theorem dL_law_677 : decode cL_law 677 = .ok (.iconst 0, 1) := by decide +kernel
theorem dL_law_678 : decode cL_law 678 = .ok (.ireturn, 1) := by decide +kernel
theorem dL_law_679 : decode cL_law 679 = .ok (.aload_n 1, 1) := by decide +kernel
theorem dL_law_680 : decode cL_law 680 = .ok (.aload_n 0, 1) := by decide +kernel
theorem dL_law_681 : decode cL_law 681 = .ok (.iload_n 3, 1) := by decide +kernel
theorem dL_law_682 : decode cL_law 682 = .ok (.iconst 1, 1) := by decide +kernel
theorem dL_law_683 : decode cL_law 683 = .ok (.iadd, 1) := by decide +kernel
theorem dL_law_684 : decode cL_law 684 = .ok (.iaload, 1) := by decide +kernel
theorem dL_law_685 : decode cL_law 685 = .ok (.aload_n 0, 1) := by decide +kernel
theorem dL_law_686 : decode cL_law 686 = .ok (.iload_n 3, 1) := by decide +kernel
theorem dL_law_687 : decode cL_law 687 = .ok (.iconst 2, 1) := by decide +kernel
theorem dL_law_688 : decode cL_law 688 = .ok (.iadd, 1) := by decide +kernel
theorem dL_law_689 : decode cL_law 689 = .ok (.iaload, 1) := by decide +kernel
theorem dL_law_690 : decode cL_law 690 = .ok (.invokevirtual 85, 3) := by decide +kernel
theorem dL_law_693 : decode cL_law 693 = .ok (.aload_n 2, 1) := by decide +kernel
theorem dL_law_694 : decode cL_law 694 = .ok (.aload_n 0, 1) := by decide +kernel
theorem dL_law_695 : decode cL_law 695 = .ok (.iload_n 3, 1) := by decide +kernel
theorem dL_law_696 : decode cL_law 696 = .ok (.iconst 1, 1) := by decide +kernel
theorem dL_law_697 : decode cL_law 697 = .ok (.iadd, 1) := by decide +kernel
theorem dL_law_698 : decode cL_law 698 = .ok (.iaload, 1) := by decide +kernel
theorem dL_law_699 : decode cL_law 699 = .ok (.aload_n 0, 1) := by decide +kernel
theorem dL_law_700 : decode cL_law 700 = .ok (.iload_n 3, 1) := by decide +kernel
theorem dL_law_701 : decode cL_law 701 = .ok (.iconst 2, 1) := by decide +kernel
theorem dL_law_702 : decode cL_law 702 = .ok (.iadd, 1) := by decide +kernel
theorem dL_law_703 : decode cL_law 703 = .ok (.iaload, 1) := by decide +kernel
theorem dL_law_704 : decode cL_law 704 = .ok (.invokevirtual 88, 3) := by decide +kernel
theorem dL_law_707 : decode cL_law 707 = .ok (.if_icmp .eq 507, 3) := by decide +kernel
theorem dL_law_710 : decode cL_law 710 = .ok (.iconst 0, 1) := by decide +kernel
theorem dL_law_711 : decode cL_law 711 = .ok (.ireturn, 1) := by decide +kernel
theorem dL_law_712 : decode cL_law 712 = .ok (.aload_n 1, 1) := by decide +kernel
theorem dL_law_713 : decode cL_law 713 = .ok (.aload_n 0, 1) := by decide +kernel
theorem dL_law_714 : decode cL_law 714 = .ok (.iload_n 3, 1) := by decide +kernel
theorem dL_law_715 : decode cL_law 715 = .ok (.iconst 1, 1) := by decide +kernel
theorem dL_law_716 : decode cL_law 716 = .ok (.iadd, 1) := by decide +kernel
theorem dL_law_717 : decode cL_law 717 = .ok (.iaload, 1) := by decide +kernel
theorem dL_law_718 : decode cL_law 718 = .ok (.invokevirtual 89, 3) := by decide +kernel
theorem dL_law_721 : decode cL_law 721 = .ok (.aload_n 2, 1) := by decide +kernel
theorem dL_law_722 : decode cL_law 722 = .ok (.aload_n 0, 1) := by decide +kernel
theorem dL_law_723 : decode cL_law 723 = .ok (.iload_n 3, 1) := by decide +kernel
theorem dL_law_724 : decode cL_law 724 = .ok (.iconst 1, 1) := by decide +kernel
theorem dL_law_725 : decode cL_law 725 = .ok (.iadd, 1) := by decide +kernel
theorem dL_law_726 : decode cL_law 726 = .ok (.iaload, 1) := by decide +kernel
theorem dL_law_727 : decode cL_law 727 = .ok (.invokevirtual 92, 3) := by decide +kernel
theorem dL_law_730 : decode cL_law 730 = .ok (.if_icmp .eq 484, 3) := by decide +kernel
theorem dL_law_733 : decode cL_law 733 = .ok (.iconst 0, 1) := by decide +kernel
theorem dL_law_734 : decode cL_law 734 = .ok (.ireturn, 1) := by decide +kernel
theorem dL_law_735 : decode cL_law 735 = .ok (.aload_n 1, 1) := by decide +kernel
theorem dL_law_736 : decode cL_law 736 = .ok (.aload_n 0, 1) := by decide +kernel
theorem dL_law_737 : decode cL_law 737 = .ok (.iload_n 3, 1) := by decide +kernel
theorem dL_law_738 : decode cL_law 738 = .ok (.iconst 1, 1) := by decide +kernel
theorem dL_law_739 : decode cL_law 739 = .ok (.iadd, 1) := by decide +kernel
theorem dL_law_740 : decode cL_law 740 = .ok (.iaload, 1) := by decide +kernel
theorem dL_law_741 : decode cL_law 741 = .ok (.aload_n 0, 1) := by decide +kernel
theorem dL_law_742 : decode cL_law 742 = .ok (.iload_n 3, 1) := by decide +kernel
theorem dL_law_743 : decode cL_law 743 = .ok (.iconst 2, 1) := by decide +kernel
theorem dL_law_744 : decode cL_law 744 = .ok (.iadd, 1) := by decide +kernel
theorem dL_law_745 : decode cL_law 745 = .ok (.iaload, 1) := by decide +kernel
theorem dL_law_746 : decode cL_law 746 = .ok (.invokevirtual 93, 3) := by decide +kernel
theorem dL_law_749 : decode cL_law 749 = .ok (.aload_n 2, 1) := by decide +kernel
theorem dL_law_750 : decode cL_law 750 = .ok (.aload_n 0, 1) := by decide +kernel
theorem dL_law_751 : decode cL_law 751 = .ok (.iload_n 3, 1) := by decide +kernel
theorem dL_law_752 : decode cL_law 752 = .ok (.iconst 1, 1) := by decide +kernel
theorem dL_law_753 : decode cL_law 753 = .ok (.iadd, 1) := by decide +kernel
theorem dL_law_754 : decode cL_law 754 = .ok (.iaload, 1) := by decide +kernel
theorem dL_law_755 : decode cL_law 755 = .ok (.aload_n 0, 1) := by decide +kernel
theorem dL_law_756 : decode cL_law 756 = .ok (.iload_n 3, 1) := by decide +kernel
theorem dL_law_757 : decode cL_law 757 = .ok (.iconst 2, 1) := by decide +kernel
theorem dL_law_758 : decode cL_law 758 = .ok (.iadd, 1) := by decide +kernel
theorem dL_law_759 : decode cL_law 759 = .ok (.iaload, 1) := by decide +kernel
theorem dL_law_760 : decode cL_law 760 = .ok (.invokevirtual 96, 3) := by decide +kernel
theorem dL_law_763 : decode cL_law 763 = .ok (.if_icmp .eq 451, 3) := by decide +kernel
theorem dL_law_766 : decode cL_law 766 = .ok (.iconst 0, 1) := by decide +kernel
theorem dL_law_767 : decode cL_law 767 = .ok (.ireturn, 1) := by decide +kernel
theorem dL_law_768 : decode cL_law 768 = .ok (.aload_n 1, 1) := by decide +kernel
theorem dL_law_769 : decode cL_law 769 = .ok (.aload_n 0, 1) := by decide +kernel
theorem dL_law_770 : decode cL_law 770 = .ok (.iload_n 3, 1) := by decide +kernel
theorem dL_law_771 : decode cL_law 771 = .ok (.iconst 1, 1) := by decide +kernel
theorem dL_law_772 : decode cL_law 772 = .ok (.iadd, 1) := by decide +kernel
theorem dL_law_773 : decode cL_law 773 = .ok (.iaload, 1) := by decide +kernel
theorem dL_law_774 : decode cL_law 774 = .ok (.aload_n 0, 1) := by decide +kernel
theorem dL_law_775 : decode cL_law 775 = .ok (.iload_n 3, 1) := by decide +kernel
theorem dL_law_776 : decode cL_law 776 = .ok (.iconst 2, 1) := by decide +kernel
theorem dL_law_777 : decode cL_law 777 = .ok (.iadd, 1) := by decide +kernel
theorem dL_law_778 : decode cL_law 778 = .ok (.iaload, 1) := by decide +kernel
theorem dL_law_779 : decode cL_law 779 = .ok (.invokevirtual 97, 3) := by decide +kernel
theorem dL_law_782 : decode cL_law 782 = .ok (.aload_n 2, 1) := by decide +kernel
theorem dL_law_783 : decode cL_law 783 = .ok (.aload_n 0, 1) := by decide +kernel
theorem dL_law_784 : decode cL_law 784 = .ok (.iload_n 3, 1) := by decide +kernel
theorem dL_law_785 : decode cL_law 785 = .ok (.iconst 1, 1) := by decide +kernel
theorem dL_law_786 : decode cL_law 786 = .ok (.iadd, 1) := by decide +kernel
theorem dL_law_787 : decode cL_law 787 = .ok (.iaload, 1) := by decide +kernel
theorem dL_law_788 : decode cL_law 788 = .ok (.aload_n 0, 1) := by decide +kernel
theorem dL_law_789 : decode cL_law 789 = .ok (.iload_n 3, 1) := by decide +kernel
theorem dL_law_790 : decode cL_law 790 = .ok (.iconst 2, 1) := by decide +kernel
theorem dL_law_791 : decode cL_law 791 = .ok (.iadd, 1) := by decide +kernel
theorem dL_law_792 : decode cL_law 792 = .ok (.iaload, 1) := by decide +kernel
theorem dL_law_793 : decode cL_law 793 = .ok (.invokevirtual 100, 3) := by decide +kernel
theorem dL_law_796 : decode cL_law 796 = .ok (.if_icmp .eq 418, 3) := by decide +kernel
theorem dL_law_799 : decode cL_law 799 = .ok (.iconst 0, 1) := by decide +kernel
theorem dL_law_800 : decode cL_law 800 = .ok (.ireturn, 1) := by decide +kernel
theorem dL_law_801 : decode cL_law 801 = .ok (.aload_n 1, 1) := by decide +kernel
theorem dL_law_802 : decode cL_law 802 = .ok (.aload_n 0, 1) := by decide +kernel
theorem dL_law_803 : decode cL_law 803 = .ok (.iload_n 3, 1) := by decide +kernel
theorem dL_law_804 : decode cL_law 804 = .ok (.iconst 1, 1) := by decide +kernel
theorem dL_law_805 : decode cL_law 805 = .ok (.iadd, 1) := by decide +kernel
theorem dL_law_806 : decode cL_law 806 = .ok (.iaload, 1) := by decide +kernel
theorem dL_law_807 : decode cL_law 807 = .ok (.aload_n 0, 1) := by decide +kernel
theorem dL_law_808 : decode cL_law 808 = .ok (.iload_n 3, 1) := by decide +kernel
theorem dL_law_809 : decode cL_law 809 = .ok (.iconst 2, 1) := by decide +kernel
theorem dL_law_810 : decode cL_law 810 = .ok (.iadd, 1) := by decide +kernel
theorem dL_law_811 : decode cL_law 811 = .ok (.iaload, 1) := by decide +kernel
theorem dL_law_812 : decode cL_law 812 = .ok (.invokevirtual 101, 3) := by decide +kernel
theorem dL_law_815 : decode cL_law 815 = .ok (.aload_n 2, 1) := by decide +kernel
theorem dL_law_816 : decode cL_law 816 = .ok (.aload_n 0, 1) := by decide +kernel
theorem dL_law_817 : decode cL_law 817 = .ok (.iload_n 3, 1) := by decide +kernel
theorem dL_law_818 : decode cL_law 818 = .ok (.iconst 1, 1) := by decide +kernel
theorem dL_law_819 : decode cL_law 819 = .ok (.iadd, 1) := by decide +kernel
theorem dL_law_820 : decode cL_law 820 = .ok (.iaload, 1) := by decide +kernel
theorem dL_law_821 : decode cL_law 821 = .ok (.aload_n 0, 1) := by decide +kernel
theorem dL_law_822 : decode cL_law 822 = .ok (.iload_n 3, 1) := by decide +kernel
theorem dL_law_823 : decode cL_law 823 = .ok (.iconst 2, 1) := by decide +kernel
theorem dL_law_824 : decode cL_law 824 = .ok (.iadd, 1) := by decide +kernel
theorem dL_law_825 : decode cL_law 825 = .ok (.iaload, 1) := by decide +kernel
theorem dL_law_826 : decode cL_law 826 = .ok (.invokevirtual 104, 3) := by decide +kernel
theorem dL_law_829 : decode cL_law 829 = .ok (.if_icmp .eq 385, 3) := by decide +kernel
theorem dL_law_832 : decode cL_law 832 = .ok (.iconst 0, 1) := by decide +kernel
theorem dL_law_833 : decode cL_law 833 = .ok (.ireturn, 1) := by decide +kernel
theorem dL_law_834 : decode cL_law 834 = .ok (.aload_n 1, 1) := by decide +kernel
theorem dL_law_835 : decode cL_law 835 = .ok (.invokevirtual 105, 3) := by decide +kernel
theorem dL_law_838 : decode cL_law 838 = .ok (.aload_n 2, 1) := by decide +kernel
theorem dL_law_839 : decode cL_law 839 = .ok (.invokevirtual 108, 3) := by decide +kernel
theorem dL_law_842 : decode cL_law 842 = .ok (.if_icmp .eq 372, 3) := by decide +kernel
theorem dL_law_845 : decode cL_law 845 = .ok (.iconst 0, 1) := by decide +kernel
theorem dL_law_846 : decode cL_law 846 = .ok (.ireturn, 1) := by decide +kernel
theorem dL_law_847 : decode cL_law 847 = .ok (.aload_n 1, 1) := by decide +kernel
theorem dL_law_848 : decode cL_law 848 = .ok (.invokevirtual 109, 3) := by decide +kernel
theorem dL_law_851 : decode cL_law 851 = .ok (.aload_n 2, 1) := by decide +kernel
theorem dL_law_852 : decode cL_law 852 = .ok (.invokevirtual 112, 3) := by decide +kernel
theorem dL_law_855 : decode cL_law 855 = .ok (.if_icmp .eq 359, 3) := by decide +kernel
theorem dL_law_858 : decode cL_law 858 = .ok (.iconst 0, 1) := by decide +kernel
theorem dL_law_859 : decode cL_law 859 = .ok (.ireturn, 1) := by decide +kernel
theorem dL_law_860 : decode cL_law 860 = .ok (.aload_n 1, 1) := by decide +kernel
theorem dL_law_861 : decode cL_law 861 = .ok (.aload_n 0, 1) := by decide +kernel
theorem dL_law_862 : decode cL_law 862 = .ok (.iload_n 3, 1) := by decide +kernel
theorem dL_law_863 : decode cL_law 863 = .ok (.iconst 1, 1) := by decide +kernel
theorem dL_law_864 : decode cL_law 864 = .ok (.iadd, 1) := by decide +kernel
theorem dL_law_865 : decode cL_law 865 = .ok (.iaload, 1) := by decide +kernel
theorem dL_law_866 : decode cL_law 866 = .ok (.aload_n 0, 1) := by decide +kernel
theorem dL_law_867 : decode cL_law 867 = .ok (.iload_n 3, 1) := by decide +kernel
theorem dL_law_868 : decode cL_law 868 = .ok (.iconst 2, 1) := by decide +kernel
theorem dL_law_869 : decode cL_law 869 = .ok (.iadd, 1) := by decide +kernel
theorem dL_law_870 : decode cL_law 870 = .ok (.iaload, 1) := by decide +kernel
theorem dL_law_871 : decode cL_law 871 = .ok (.aload_n 0, 1) := by decide +kernel
theorem dL_law_872 : decode cL_law 872 = .ok (.iload_n 3, 1) := by decide +kernel
theorem dL_law_873 : decode cL_law 873 = .ok (.iconst 3, 1) := by decide +kernel
theorem dL_law_874 : decode cL_law 874 = .ok (.iadd, 1) := by decide +kernel
theorem dL_law_875 : decode cL_law 875 = .ok (.iaload, 1) := by decide +kernel
theorem dL_law_876 : decode cL_law 876 = .ok (.invokevirtual 113, 3) := by decide +kernel
theorem dL_law_879 : decode cL_law 879 = .ok (.aload_n 2, 1) := by decide +kernel
theorem dL_law_880 : decode cL_law 880 = .ok (.aload_n 0, 1) := by decide +kernel
theorem dL_law_881 : decode cL_law 881 = .ok (.iload_n 3, 1) := by decide +kernel
theorem dL_law_882 : decode cL_law 882 = .ok (.iconst 1, 1) := by decide +kernel
theorem dL_law_883 : decode cL_law 883 = .ok (.iadd, 1) := by decide +kernel
theorem dL_law_884 : decode cL_law 884 = .ok (.iaload, 1) := by decide +kernel
theorem dL_law_885 : decode cL_law 885 = .ok (.aload_n 0, 1) := by decide +kernel
theorem dL_law_886 : decode cL_law 886 = .ok (.iload_n 3, 1) := by decide +kernel
theorem dL_law_887 : decode cL_law 887 = .ok (.iconst 2, 1) := by decide +kernel
theorem dL_law_888 : decode cL_law 888 = .ok (.iadd, 1) := by decide +kernel
theorem dL_law_889 : decode cL_law 889 = .ok (.iaload, 1) := by decide +kernel
theorem dL_law_890 : decode cL_law 890 = .ok (.aload_n 0, 1) := by decide +kernel
theorem dL_law_891 : decode cL_law 891 = .ok (.iload_n 3, 1) := by decide +kernel
theorem dL_law_892 : decode cL_law 892 = .ok (.iconst 3, 1) := by decide +kernel
theorem dL_law_893 : decode cL_law 893 = .ok (.iadd, 1) := by decide +kernel
theorem dL_law_894 : decode cL_law 894 = .ok (.iaload, 1) := by decide +kernel
theorem dL_law_895 : decode cL_law 895 = .ok (.invokevirtual 116, 3) := by decide +kernel
theorem dL_law_898 : decode cL_law 898 = .ok (.if_icmp .eq 316, 3) := by decide +kernel
theorem dL_law_901 : decode cL_law 901 = .ok (.iconst 0, 1) := by decide +kernel
theorem dL_law_902 : decode cL_law 902 = .ok (.ireturn, 1) := by decide +kernel
theorem dL_law_903 : decode cL_law 903 = .ok (.aload_n 1, 1) := by decide +kernel
theorem dL_law_904 : decode cL_law 904 = .ok (.aload_n 0, 1) := by decide +kernel
theorem dL_law_905 : decode cL_law 905 = .ok (.iload_n 3, 1) := by decide +kernel
theorem dL_law_906 : decode cL_law 906 = .ok (.iconst 1, 1) := by decide +kernel
theorem dL_law_907 : decode cL_law 907 = .ok (.iadd, 1) := by decide +kernel
theorem dL_law_908 : decode cL_law 908 = .ok (.iaload, 1) := by decide +kernel
theorem dL_law_909 : decode cL_law 909 = .ok (.aload_n 0, 1) := by decide +kernel
theorem dL_law_910 : decode cL_law 910 = .ok (.iload_n 3, 1) := by decide +kernel
theorem dL_law_911 : decode cL_law 911 = .ok (.iconst 2, 1) := by decide +kernel
theorem dL_law_912 : decode cL_law 912 = .ok (.iadd, 1) := by decide +kernel
theorem dL_law_913 : decode cL_law 913 = .ok (.iaload, 1) := by decide +kernel
theorem dL_law_914 : decode cL_law 914 = .ok (.aload_n 0, 1) := by decide +kernel
theorem dL_law_915 : decode cL_law 915 = .ok (.iload_n 3, 1) := by decide +kernel
theorem dL_law_916 : decode cL_law 916 = .ok (.iconst 3, 1) := by decide +kernel
theorem dL_law_917 : decode cL_law 917 = .ok (.iadd, 1) := by decide +kernel
theorem dL_law_918 : decode cL_law 918 = .ok (.iaload, 1) := by decide +kernel
theorem dL_law_919 : decode cL_law 919 = .ok (.i2l, 1) := by decide +kernel
theorem dL_law_920 : decode cL_law 920 = .ok (.bipush 32, 2) := by decide +kernel
theorem dL_law_922 : decode cL_law 922 = .ok (.lshl, 1) := by decide +kernel
theorem dL_law_923 : decode cL_law 923 = .ok (.aload_n 0, 1) := by decide +kernel
theorem dL_law_924 : decode cL_law 924 = .ok (.iload_n 3, 1) := by decide +kernel
theorem dL_law_925 : decode cL_law 925 = .ok (.iconst 4, 1) := by decide +kernel
theorem dL_law_926 : decode cL_law 926 = .ok (.iadd, 1) := by decide +kernel
theorem dL_law_927 : decode cL_law 927 = .ok (.iaload, 1) := by decide +kernel
theorem dL_law_928 : decode cL_law 928 = .ok (.i2l, 1) := by decide +kernel
theorem dL_law_929 : decode cL_law 929 = .ok (.ldc2_w 117, 3) := by decide +kernel
theorem dL_law_932 : decode cL_law 932 = .ok (.land, 1) := by decide +kernel
theorem dL_law_933 : decode cL_law 933 = .ok (.lor, 1) := by decide +kernel
theorem dL_law_934 : decode cL_law 934 = .ok (.invokevirtual 119, 3) := by decide +kernel
theorem dL_law_937 : decode cL_law 937 = .ok (.aload_n 2, 1) := by decide +kernel
theorem dL_law_938 : decode cL_law 938 = .ok (.aload_n 0, 1) := by decide +kernel
theorem dL_law_939 : decode cL_law 939 = .ok (.iload_n 3, 1) := by decide +kernel
theorem dL_law_940 : decode cL_law 940 = .ok (.iconst 1, 1) := by decide +kernel
theorem dL_law_941 : decode cL_law 941 = .ok (.iadd, 1) := by decide +kernel
theorem dL_law_942 : decode cL_law 942 = .ok (.iaload, 1) := by decide +kernel
theorem dL_law_943 : decode cL_law 943 = .ok (.aload_n 0, 1) := by decide +kernel
theorem dL_law_944 : decode cL_law 944 = .ok (.iload_n 3, 1) := by decide +kernel
theorem dL_law_945 : decode cL_law 945 = .ok (.iconst 2, 1) := by decide +kernel
theorem dL_law_946 : decode cL_law 946 = .ok (.iadd, 1) := by decide +kernel
theorem dL_law_947 : decode cL_law 947 = .ok (.iaload, 1) := by decide +kernel
theorem dL_law_948 : decode cL_law 948 = .ok (.aload_n 0, 1) := by decide +kernel
theorem dL_law_949 : decode cL_law 949 = .ok (.iload_n 3, 1) := by decide +kernel
theorem dL_law_950 : decode cL_law 950 = .ok (.iconst 3, 1) := by decide +kernel
theorem dL_law_951 : decode cL_law 951 = .ok (.iadd, 1) := by decide +kernel
theorem dL_law_952 : decode cL_law 952 = .ok (.iaload, 1) := by decide +kernel
theorem dL_law_953 : decode cL_law 953 = .ok (.i2l, 1) := by decide +kernel
theorem dL_law_954 : decode cL_law 954 = .ok (.bipush 32, 2) := by decide +kernel
theorem dL_law_956 : decode cL_law 956 = .ok (.lshl, 1) := by decide +kernel
theorem dL_law_957 : decode cL_law 957 = .ok (.aload_n 0, 1) := by decide +kernel
theorem dL_law_958 : decode cL_law 958 = .ok (.iload_n 3, 1) := by decide +kernel
theorem dL_law_959 : decode cL_law 959 = .ok (.iconst 4, 1) := by decide +kernel
theorem dL_law_960 : decode cL_law 960 = .ok (.iadd, 1) := by decide +kernel
theorem dL_law_961 : decode cL_law 961 = .ok (.iaload, 1) := by decide +kernel
theorem dL_law_962 : decode cL_law 962 = .ok (.i2l, 1) := by decide +kernel
theorem dL_law_963 : decode cL_law 963 = .ok (.ldc2_w 117, 3) := by decide +kernel
theorem dL_law_966 : decode cL_law 966 = .ok (.land, 1) := by decide +kernel
theorem dL_law_967 : decode cL_law 967 = .ok (.lor, 1) := by decide +kernel
theorem dL_law_968 : decode cL_law 968 = .ok (.invokevirtual 123, 3) := by decide +kernel
theorem dL_law_971 : decode cL_law 971 = .ok (.lcmp, 1) := by decide +kernel
theorem dL_law_972 : decode cL_law 972 = .ok (.ifCond .eq 242, 3) := by decide +kernel
theorem dL_law_975 : decode cL_law 975 = .ok (.iconst 0, 1) := by decide +kernel
theorem dL_law_976 : decode cL_law 976 = .ok (.ireturn, 1) := by decide +kernel
theorem dL_law_977 : decode cL_law 977 = .ok (.aload_n 1, 1) := by decide +kernel
theorem dL_law_978 : decode cL_law 978 = .ok (.aload_n 0, 1) := by decide +kernel
theorem dL_law_979 : decode cL_law 979 = .ok (.iload_n 3, 1) := by decide +kernel
theorem dL_law_980 : decode cL_law 980 = .ok (.iconst 1, 1) := by decide +kernel
theorem dL_law_981 : decode cL_law 981 = .ok (.iadd, 1) := by decide +kernel
theorem dL_law_982 : decode cL_law 982 = .ok (.iaload, 1) := by decide +kernel
theorem dL_law_983 : decode cL_law 983 = .ok (.aload_n 0, 1) := by decide +kernel
theorem dL_law_984 : decode cL_law 984 = .ok (.iload_n 3, 1) := by decide +kernel
theorem dL_law_985 : decode cL_law 985 = .ok (.iconst 2, 1) := by decide +kernel
theorem dL_law_986 : decode cL_law 986 = .ok (.iadd, 1) := by decide +kernel
theorem dL_law_987 : decode cL_law 987 = .ok (.iaload, 1) := by decide +kernel
theorem dL_law_988 : decode cL_law 988 = .ok (.aload_n 0, 1) := by decide +kernel
theorem dL_law_989 : decode cL_law 989 = .ok (.iload_n 3, 1) := by decide +kernel
theorem dL_law_990 : decode cL_law 990 = .ok (.iconst 3, 1) := by decide +kernel
theorem dL_law_991 : decode cL_law 991 = .ok (.iadd, 1) := by decide +kernel
theorem dL_law_992 : decode cL_law 992 = .ok (.iaload, 1) := by decide +kernel
theorem dL_law_993 : decode cL_law 993 = .ok (.aload_n 0, 1) := by decide +kernel
theorem dL_law_994 : decode cL_law 994 = .ok (.iload_n 3, 1) := by decide +kernel
theorem dL_law_995 : decode cL_law 995 = .ok (.iconst 4, 1) := by decide +kernel
theorem dL_law_996 : decode cL_law 996 = .ok (.iadd, 1) := by decide +kernel
theorem dL_law_997 : decode cL_law 997 = .ok (.iaload, 1) := by decide +kernel
theorem dL_law_998 : decode cL_law 998 = .ok (.aload_n 0, 1) := by decide +kernel
theorem dL_law_999 : decode cL_law 999 = .ok (.iload_n 3, 1) := by decide +kernel
theorem dL_law_1000 : decode cL_law 1000 = .ok (.iconst 5, 1) := by decide +kernel
theorem dL_law_1001 : decode cL_law 1001 = .ok (.iadd, 1) := by decide +kernel
theorem dL_law_1002 : decode cL_law 1002 = .ok (.iaload, 1) := by decide +kernel
theorem dL_law_1003 : decode cL_law 1003 = .ok (.invokevirtual 124, 3) := by decide +kernel
theorem dL_law_1006 : decode cL_law 1006 = .ok (.aload_n 2, 1) := by decide +kernel
theorem dL_law_1007 : decode cL_law 1007 = .ok (.aload_n 0, 1) := by decide +kernel
theorem dL_law_1008 : decode cL_law 1008 = .ok (.iload_n 3, 1) := by decide +kernel
theorem dL_law_1009 : decode cL_law 1009 = .ok (.iconst 1, 1) := by decide +kernel
theorem dL_law_1010 : decode cL_law 1010 = .ok (.iadd, 1) := by decide +kernel
theorem dL_law_1011 : decode cL_law 1011 = .ok (.iaload, 1) := by decide +kernel
theorem dL_law_1012 : decode cL_law 1012 = .ok (.aload_n 0, 1) := by decide +kernel
theorem dL_law_1013 : decode cL_law 1013 = .ok (.iload_n 3, 1) := by decide +kernel
theorem dL_law_1014 : decode cL_law 1014 = .ok (.iconst 2, 1) := by decide +kernel
theorem dL_law_1015 : decode cL_law 1015 = .ok (.iadd, 1) := by decide +kernel
theorem dL_law_1016 : decode cL_law 1016 = .ok (.iaload, 1) := by decide +kernel
theorem dL_law_1017 : decode cL_law 1017 = .ok (.aload_n 0, 1) := by decide +kernel
theorem dL_law_1018 : decode cL_law 1018 = .ok (.iload_n 3, 1) := by decide +kernel
theorem dL_law_1019 : decode cL_law 1019 = .ok (.iconst 3, 1) := by decide +kernel
theorem dL_law_1020 : decode cL_law 1020 = .ok (.iadd, 1) := by decide +kernel
theorem dL_law_1021 : decode cL_law 1021 = .ok (.iaload, 1) := by decide +kernel
theorem dL_law_1022 : decode cL_law 1022 = .ok (.aload_n 0, 1) := by decide +kernel
theorem dL_law_1023 : decode cL_law 1023 = .ok (.iload_n 3, 1) := by decide +kernel
theorem dL_law_1024 : decode cL_law 1024 = .ok (.iconst 4, 1) := by decide +kernel
theorem dL_law_1025 : decode cL_law 1025 = .ok (.iadd, 1) := by decide +kernel
theorem dL_law_1026 : decode cL_law 1026 = .ok (.iaload, 1) := by decide +kernel
theorem dL_law_1027 : decode cL_law 1027 = .ok (.aload_n 0, 1) := by decide +kernel
theorem dL_law_1028 : decode cL_law 1028 = .ok (.iload_n 3, 1) := by decide +kernel
theorem dL_law_1029 : decode cL_law 1029 = .ok (.iconst 5, 1) := by decide +kernel
theorem dL_law_1030 : decode cL_law 1030 = .ok (.iadd, 1) := by decide +kernel
theorem dL_law_1031 : decode cL_law 1031 = .ok (.iaload, 1) := by decide +kernel
theorem dL_law_1032 : decode cL_law 1032 = .ok (.invokevirtual 128, 3) := by decide +kernel
theorem dL_law_1035 : decode cL_law 1035 = .ok (.if_icmp .eq 179, 3) := by decide +kernel
theorem dL_law_1038 : decode cL_law 1038 = .ok (.iconst 0, 1) := by decide +kernel
theorem dL_law_1039 : decode cL_law 1039 = .ok (.ireturn, 1) := by decide +kernel
theorem dL_law_1040 : decode cL_law 1040 = .ok (.aload_n 1, 1) := by decide +kernel
theorem dL_law_1041 : decode cL_law 1041 = .ok (.aload_n 0, 1) := by decide +kernel
theorem dL_law_1042 : decode cL_law 1042 = .ok (.iload_n 3, 1) := by decide +kernel
theorem dL_law_1043 : decode cL_law 1043 = .ok (.iconst 1, 1) := by decide +kernel
theorem dL_law_1044 : decode cL_law 1044 = .ok (.iadd, 1) := by decide +kernel
theorem dL_law_1045 : decode cL_law 1045 = .ok (.iaload, 1) := by decide +kernel
theorem dL_law_1046 : decode cL_law 1046 = .ok (.invokevirtual 129, 3) := by decide +kernel
theorem dL_law_1049 : decode cL_law 1049 = .ok (.aload_n 2, 1) := by decide +kernel
theorem dL_law_1050 : decode cL_law 1050 = .ok (.aload_n 0, 1) := by decide +kernel
theorem dL_law_1051 : decode cL_law 1051 = .ok (.iload_n 3, 1) := by decide +kernel
theorem dL_law_1052 : decode cL_law 1052 = .ok (.iconst 1, 1) := by decide +kernel
theorem dL_law_1053 : decode cL_law 1053 = .ok (.iadd, 1) := by decide +kernel
theorem dL_law_1054 : decode cL_law 1054 = .ok (.iaload, 1) := by decide +kernel
theorem dL_law_1055 : decode cL_law 1055 = .ok (.invokevirtual 132, 3) := by decide +kernel
theorem dL_law_1058 : decode cL_law 1058 = .ok (.if_icmp .eq 156, 3) := by decide +kernel
theorem dL_law_1061 : decode cL_law 1061 = .ok (.iconst 0, 1) := by decide +kernel
theorem dL_law_1062 : decode cL_law 1062 = .ok (.ireturn, 1) := by decide +kernel
theorem dL_law_1063 : decode cL_law 1063 = .ok (.aload_n 1, 1) := by decide +kernel
theorem dL_law_1064 : decode cL_law 1064 = .ok (.aload_n 0, 1) := by decide +kernel
theorem dL_law_1065 : decode cL_law 1065 = .ok (.iload_n 3, 1) := by decide +kernel
theorem dL_law_1066 : decode cL_law 1066 = .ok (.iconst 1, 1) := by decide +kernel
theorem dL_law_1067 : decode cL_law 1067 = .ok (.iadd, 1) := by decide +kernel
theorem dL_law_1068 : decode cL_law 1068 = .ok (.iaload, 1) := by decide +kernel
theorem dL_law_1069 : decode cL_law 1069 = .ok (.aload_n 0, 1) := by decide +kernel
theorem dL_law_1070 : decode cL_law 1070 = .ok (.iload_n 3, 1) := by decide +kernel
theorem dL_law_1071 : decode cL_law 1071 = .ok (.iconst 2, 1) := by decide +kernel
theorem dL_law_1072 : decode cL_law 1072 = .ok (.iadd, 1) := by decide +kernel
theorem dL_law_1073 : decode cL_law 1073 = .ok (.iaload, 1) := by decide +kernel
theorem dL_law_1074 : decode cL_law 1074 = .ok (.invokevirtual 133, 3) := by decide +kernel
theorem dL_law_1077 : decode cL_law 1077 = .ok (.aload_n 2, 1) := by decide +kernel
theorem dL_law_1078 : decode cL_law 1078 = .ok (.aload_n 0, 1) := by decide +kernel
theorem dL_law_1079 : decode cL_law 1079 = .ok (.iload_n 3, 1) := by decide +kernel
theorem dL_law_1080 : decode cL_law 1080 = .ok (.iconst 1, 1) := by decide +kernel
theorem dL_law_1081 : decode cL_law 1081 = .ok (.iadd, 1) := by decide +kernel
theorem dL_law_1082 : decode cL_law 1082 = .ok (.iaload, 1) := by decide +kernel
theorem dL_law_1083 : decode cL_law 1083 = .ok (.aload_n 0, 1) := by decide +kernel
theorem dL_law_1084 : decode cL_law 1084 = .ok (.iload_n 3, 1) := by decide +kernel
theorem dL_law_1085 : decode cL_law 1085 = .ok (.iconst 2, 1) := by decide +kernel
theorem dL_law_1086 : decode cL_law 1086 = .ok (.iadd, 1) := by decide +kernel
theorem dL_law_1087 : decode cL_law 1087 = .ok (.iaload, 1) := by decide +kernel
theorem dL_law_1088 : decode cL_law 1088 = .ok (.invokevirtual 136, 3) := by decide +kernel
theorem dL_law_1091 : decode cL_law 1091 = .ok (.if_icmp .eq 123, 3) := by decide +kernel
theorem dL_law_1094 : decode cL_law 1094 = .ok (.iconst 0, 1) := by decide +kernel
theorem dL_law_1095 : decode cL_law 1095 = .ok (.ireturn, 1) := by decide +kernel
theorem dL_law_1096 : decode cL_law 1096 = .ok (.aload_n 1, 1) := by decide +kernel
theorem dL_law_1097 : decode cL_law 1097 = .ok (.aload_n 0, 1) := by decide +kernel
theorem dL_law_1098 : decode cL_law 1098 = .ok (.iload_n 3, 1) := by decide +kernel
theorem dL_law_1099 : decode cL_law 1099 = .ok (.iconst 1, 1) := by decide +kernel
theorem dL_law_1100 : decode cL_law 1100 = .ok (.iadd, 1) := by decide +kernel
theorem dL_law_1101 : decode cL_law 1101 = .ok (.iaload, 1) := by decide +kernel
theorem dL_law_1102 : decode cL_law 1102 = .ok (.aload_n 0, 1) := by decide +kernel
theorem dL_law_1103 : decode cL_law 1103 = .ok (.iload_n 3, 1) := by decide +kernel
theorem dL_law_1104 : decode cL_law 1104 = .ok (.iconst 2, 1) := by decide +kernel
theorem dL_law_1105 : decode cL_law 1105 = .ok (.iadd, 1) := by decide +kernel
theorem dL_law_1106 : decode cL_law 1106 = .ok (.iaload, 1) := by decide +kernel
theorem dL_law_1107 : decode cL_law 1107 = .ok (.invokevirtual 137, 3) := by decide +kernel
theorem dL_law_1110 : decode cL_law 1110 = .ok (.aload_n 2, 1) := by decide +kernel
theorem dL_law_1111 : decode cL_law 1111 = .ok (.aload_n 0, 1) := by decide +kernel
theorem dL_law_1112 : decode cL_law 1112 = .ok (.iload_n 3, 1) := by decide +kernel
theorem dL_law_1113 : decode cL_law 1113 = .ok (.iconst 1, 1) := by decide +kernel
theorem dL_law_1114 : decode cL_law 1114 = .ok (.iadd, 1) := by decide +kernel
theorem dL_law_1115 : decode cL_law 1115 = .ok (.iaload, 1) := by decide +kernel
theorem dL_law_1116 : decode cL_law 1116 = .ok (.aload_n 0, 1) := by decide +kernel
theorem dL_law_1117 : decode cL_law 1117 = .ok (.iload_n 3, 1) := by decide +kernel
theorem dL_law_1118 : decode cL_law 1118 = .ok (.iconst 2, 1) := by decide +kernel
theorem dL_law_1119 : decode cL_law 1119 = .ok (.iadd, 1) := by decide +kernel
theorem dL_law_1120 : decode cL_law 1120 = .ok (.iaload, 1) := by decide +kernel
theorem dL_law_1121 : decode cL_law 1121 = .ok (.invokevirtual 140, 3) := by decide +kernel
theorem dL_law_1124 : decode cL_law 1124 = .ok (.if_icmp .eq 90, 3) := by decide +kernel
theorem dL_law_1127 : decode cL_law 1127 = .ok (.iconst 0, 1) := by decide +kernel
theorem dL_law_1128 : decode cL_law 1128 = .ok (.ireturn, 1) := by decide +kernel
theorem dL_law_1129 : decode cL_law 1129 = .ok (.aload_n 1, 1) := by decide +kernel
theorem dL_law_1130 : decode cL_law 1130 = .ok (.invokevirtual 141, 3) := by decide +kernel
theorem dL_law_1133 : decode cL_law 1133 = .ok (.aload_n 2, 1) := by decide +kernel
theorem dL_law_1134 : decode cL_law 1134 = .ok (.invokevirtual 144, 3) := by decide +kernel
theorem dL_law_1137 : decode cL_law 1137 = .ok (.if_icmp .eq 77, 3) := by decide +kernel
theorem dL_law_1140 : decode cL_law 1140 = .ok (.iconst 0, 1) := by decide +kernel
theorem dL_law_1141 : decode cL_law 1141 = .ok (.ireturn, 1) := by decide +kernel
theorem dL_law_1142 : decode cL_law 1142 = .ok (.aload_n 1, 1) := by decide +kernel
theorem dL_law_1143 : decode cL_law 1143 = .ok (.invokevirtual 145, 3) := by decide +kernel
theorem dL_law_1146 : decode cL_law 1146 = .ok (.aload_n 2, 1) := by decide +kernel
theorem dL_law_1147 : decode cL_law 1147 = .ok (.invokevirtual 148, 3) := by decide +kernel
theorem dL_law_1150 : decode cL_law 1150 = .ok (.if_icmp .eq 64, 3) := by decide +kernel
theorem dL_law_1153 : decode cL_law 1153 = .ok (.iconst 0, 1) := by decide +kernel
theorem dL_law_1154 : decode cL_law 1154 = .ok (.ireturn, 1) := by decide +kernel
theorem dL_law_1155 : decode cL_law 1155 = .ok (.aload_n 1, 1) := by decide +kernel
theorem dL_law_1156 : decode cL_law 1156 = .ok (.invokevirtual 149, 3) := by decide +kernel
theorem dL_law_1159 : decode cL_law 1159 = .ok (.aload_n 2, 1) := by decide +kernel
theorem dL_law_1160 : decode cL_law 1160 = .ok (.invokevirtual 152, 3) := by decide +kernel
theorem dL_law_1163 : decode cL_law 1163 = .ok (.if_icmp .eq 51, 3) := by decide +kernel
theorem dL_law_1166 : decode cL_law 1166 = .ok (.iconst 0, 1) := by decide +kernel
theorem dL_law_1167 : decode cL_law 1167 = .ok (.ireturn, 1) := by decide +kernel
theorem dL_law_1168 : decode cL_law 1168 = .ok (.aload_n 1, 1) := by decide +kernel
theorem dL_law_1169 : decode cL_law 1169 = .ok (.aload_n 0, 1) := by decide +kernel
theorem dL_law_1170 : decode cL_law 1170 = .ok (.iload_n 3, 1) := by decide +kernel
theorem dL_law_1171 : decode cL_law 1171 = .ok (.iconst 1, 1) := by decide +kernel
theorem dL_law_1172 : decode cL_law 1172 = .ok (.iadd, 1) := by decide +kernel
theorem dL_law_1173 : decode cL_law 1173 = .ok (.iaload, 1) := by decide +kernel
theorem dL_law_1174 : decode cL_law 1174 = .ok (.invokevirtual 153, 3) := by decide +kernel
theorem dL_law_1177 : decode cL_law 1177 = .ok (.aload_n 2, 1) := by decide +kernel
theorem dL_law_1178 : decode cL_law 1178 = .ok (.aload_n 0, 1) := by decide +kernel
theorem dL_law_1179 : decode cL_law 1179 = .ok (.iload_n 3, 1) := by decide +kernel
theorem dL_law_1180 : decode cL_law 1180 = .ok (.iconst 1, 1) := by decide +kernel
theorem dL_law_1181 : decode cL_law 1181 = .ok (.iadd, 1) := by decide +kernel
theorem dL_law_1182 : decode cL_law 1182 = .ok (.iaload, 1) := by decide +kernel
theorem dL_law_1183 : decode cL_law 1183 = .ok (.invokevirtual 156, 3) := by decide +kernel
theorem dL_law_1186 : decode cL_law 1186 = .ok (.if_icmp .eq 28, 3) := by decide +kernel
theorem dL_law_1189 : decode cL_law 1189 = .ok (.iconst 0, 1) := by decide +kernel
theorem dL_law_1190 : decode cL_law 1190 = .ok (.ireturn, 1) := by decide +kernel
theorem dL_law_1191 : decode cL_law 1191 = .ok (.aload_n 1, 1) := by decide +kernel
theorem dL_law_1192 : decode cL_law 1192 = .ok (.aload_n 0, 1) := by decide +kernel
theorem dL_law_1193 : decode cL_law 1193 = .ok (.iload_n 3, 1) := by decide +kernel
theorem dL_law_1194 : decode cL_law 1194 = .ok (.iconst 1, 1) := by decide +kernel
theorem dL_law_1195 : decode cL_law 1195 = .ok (.iadd, 1) := by decide +kernel
theorem dL_law_1196 : decode cL_law 1196 = .ok (.iaload, 1) := by decide +kernel
theorem dL_law_1197 : decode cL_law 1197 = .ok (.invokevirtual 157, 3) := by decide +kernel
theorem dL_law_1200 : decode cL_law 1200 = .ok (.aload_n 2, 1) := by decide +kernel
theorem dL_law_1201 : decode cL_law 1201 = .ok (.aload_n 0, 1) := by decide +kernel
theorem dL_law_1202 : decode cL_law 1202 = .ok (.iload_n 3, 1) := by decide +kernel
theorem dL_law_1203 : decode cL_law 1203 = .ok (.iconst 1, 1) := by decide +kernel
theorem dL_law_1204 : decode cL_law 1204 = .ok (.iadd, 1) := by decide +kernel
theorem dL_law_1205 : decode cL_law 1205 = .ok (.iaload, 1) := by decide +kernel
theorem dL_law_1206 : decode cL_law 1206 = .ok (.invokevirtual 160, 3) := by decide +kernel
theorem dL_law_1209 : decode cL_law 1209 = .ok (.if_icmp .eq 5, 3) := by decide +kernel
theorem dL_law_1212 : decode cL_law 1212 = .ok (.iconst 0, 1) := by decide +kernel
theorem dL_law_1213 : decode cL_law 1213 = .ok (.ireturn, 1) := by decide +kernel
theorem dL_law_1214 : decode cL_law 1214 = .ok (.iinc 3 6, 3) := by decide +kernel
theorem dL_law_1217 : decode cL_law 1217 = .ok (.goto (-1199), 3) := by decide +kernel
theorem dL_law_1220 : decode cL_law 1220 = .ok (.iconst 1, 1) := by decide +kernel
theorem dL_law_1221 : decode cL_law 1221 = .ok (.ireturn, 1) := by decide +kernel
end
section
/-- the words of the tables that keep: one list for every method -/
def WL : List Cond := lw_tbl.filter goodWord
theorem WL_good : ∀ w ∈ WL, goodWord w = true := fun w h => (List.mem_filter.mp h).2
theorem WL_lw : ∀ w ∈ WL, w ∈ lw_tbl := fun w h => (List.mem_filter.mp h).1
theorem WL_in {w : Cond} (h : w ∈ tables_1) (g : goodWord w = true) : w ∈ WL := List.mem_filter.mpr ⟨List.mem_append_right _ h, g⟩
theorem WL_1 {w : Cond} (i : Nat) (h : tables_1_1[i]? = some w) (g : goodWord w = true) : w ∈ WL := WL_in (List.mem_append_left _ (List.mem_of_getElem? h)) g
theorem WL_2 {w : Cond} (i : Nat) (h : tables_1_2[i]? = some w) (g : goodWord w = true) : w ∈ WL := WL_in (List.mem_append_right _ (List.mem_append_left _ (List.mem_of_getElem? h))) g
theorem WL_3 {w : Cond} (i : Nat) (h : tables_1_3[i]? = some w) (g : goodWord w = true) : w ∈ WL := WL_in (List.mem_append_right _ (List.mem_append_right _ (List.mem_append_left _ (List.mem_of_getElem? h)))) g
theorem WL_4 {w : Cond} (i : Nat) (h : tables_1_4[i]? = some w) (g : goodWord w = true) : w ∈ WL := WL_in (List.mem_append_right _ (List.mem_append_right _ (List.mem_append_right _ (List.mem_append_left _ (List.mem_of_getElem? h))))) g
theorem WL_5 {w : Cond} (i : Nat) (h : tables_1_5[i]? = some w) (g : goodWord w = true) : w ∈ WL := WL_in (List.mem_append_right _ (List.mem_append_right _ (List.mem_append_right _ (List.mem_append_right _ (List.mem_of_getElem? h))))) g
theorem WL_p {y : MethodName} {n : Nat} (h : (y, n) ∈ lw_privs) : Cond.selects y.cls y y ∈ WL := List.mem_filter.mpr ⟨List.mem_append_left _ (List.mem_map.mpr ⟨(y, n), h, rfl⟩), rfl⟩
theorem WL_p1 {y : MethodName} {n : Nat} (i : Nat) (h : lw_privs_1[i]? = some (y, n)) : Cond.selects y.cls y y ∈ WL := WL_p (List.mem_append_left _ (List.mem_of_getElem? h))
theorem WL_p2 {y : MethodName} {n : Nat} (i : Nat) (h : lw_privs_2[i]? = some (y, n)) : Cond.selects y.cls y y ∈ WL := WL_p (List.mem_append_right _ (List.mem_append_left _ (List.mem_of_getElem? h)))
theorem WL_p3 {y : MethodName} {n : Nat} (i : Nat) (h : lw_privs_3[i]? = some (y, n)) : Cond.selects y.cls y y ∈ WL := WL_p (List.mem_append_right _ (List.mem_append_right _ (List.mem_append_left _ (List.mem_of_getElem? h))))
theorem WL_p4 {y : MethodName} {n : Nat} (i : Nat) (h : lw_privs_4[i]? = some (y, n)) : Cond.selects y.cls y y ∈ WL := WL_p (List.mem_append_right _ (List.mem_append_right _ (List.mem_append_right _ (List.mem_append_left _ (List.mem_of_getElem? h)))))
theorem WL_p5 {y : MethodName} {n : Nat} (i : Nat) (h : lw_privs_5[i]? = some (y, n)) : Cond.selects y.cls y y ∈ WL := WL_p (List.mem_append_right _ (List.mem_append_right _ (List.mem_append_right _ (List.mem_append_right _ (List.mem_of_getElem? h)))))
theorem WL_gi {ws : List Cond} (h : ∀ w ∈ ws, w ∈ WL) : GoodIn WL ws := fun w hw => ⟨h w hw, good_of_word (WL_good w (h w hw))⟩
theorem WL_cons {w : Cond} {ws : List Cond} (h : w ∈ WL) (k : ∀ x ∈ ws, x ∈ WL) : ∀ x ∈ w :: ws, x ∈ WL := fun x hx => (List.mem_cons.mp hx).elim (fun e => e ▸ h) (k x)
/-- a method's words -/
abbrev wC (y : MethodName) (b : ByteArray) (n : Nat) (r : Option FieldType) : List Cond := Cond.code y b n r :: WL
theorem WL_c {y : MethodName} {b : ByteArray} {n : Nat} {r : Option FieldType} (h : Cond.code y b n r ∈ WL) : GoodIn WL (wC y b n r) := WL_gi (WL_cons h (fun _ k => k))
theorem WL_v {own C : String} {ix : Nat} {y : MethodName} {b : ByteArray} {n : Nat} {r : Option FieldType} (h1 : Cond.methodLink own ix y ∈ WL) (h2 : Cond.instanceMethod y ∈ WL) (h3 : Cond.selects C y y ∈ WL) (h4 : Cond.initialized C ∈ WL) (h5 : Cond.code y b n r ∈ WL) : GoodIn WL (wsV own ix C y (wC y b n r)) :=
  WL_gi (WL_cons h1 (WL_cons h2 (WL_cons h3 (WL_cons h4 (WL_cons h5 (fun _ k => k))))))
theorem WL_s {own : String} {ix : Nat} {y : MethodName} {b : ByteArray} {n : Nat} {r : Option FieldType} (h1 : Cond.methodLink own ix y ∈ WL) (h2 : Cond.static y ∈ WL) (h3 : Cond.initialized y.cls ∈ WL) (h5 : Cond.code y b n r ∈ WL) : GoodIn WL (va_wsS own ix y (wC y b n r)) :=
  WL_gi (WL_cons h1 (WL_cons h2 (WL_cons h3 (WL_cons h5 (fun _ k => k)))))

theorem wi_L : Cond.initialized RL ∈ WL := WL_1 0 (by decide +kernel) rfl
theorem wi_X3 : Cond.initialized RX3 ∈ WL := WL_1 1 (by decide +kernel) rfl
theorem wi_X0 : Cond.initialized RX0 ∈ WL := WL_1 2 (by decide +kernel) rfl
theorem wi_X2 : Cond.initialized RX2 ∈ WL := WL_1 3 (by decide +kernel) rfl
theorem wi_X1 : Cond.initialized RX1 ∈ WL := WL_1 4 (by decide +kernel) rfl
theorem wi_X4 : Cond.initialized RX4 ∈ WL := WL_1 5 (by decide +kernel) rfl
theorem wi_J9 : Cond.initialized RJ9 ∈ WL := WL_1 6 (by decide +kernel) rfl
theorem wi_J6 : Cond.initialized RJ6 ∈ WL := WL_1 7 (by decide +kernel) rfl
theorem wi_J10 : Cond.initialized RJ10 ∈ WL := WL_1 8 (by decide +kernel) rfl
theorem wi_J0 : Cond.initialized RJ0 ∈ WL := WL_1 9 (by decide +kernel) rfl
theorem wi_J1 : Cond.initialized RJ1 ∈ WL := WL_1 10 (by decide +kernel) rfl
theorem wi_J3 : Cond.initialized RJ3 ∈ WL := WL_1 11 (by decide +kernel) rfl
theorem wi_J2 : Cond.initialized RJ2 ∈ WL := WL_1 12 (by decide +kernel) rfl
theorem wk_L_7 : Cond.classLink RL 7 RX3 ∈ WL := WL_1 13 (by decide +kernel) rfl
theorem wj_X3 : Cond.instantiable RX3 8 ∈ WL := WL_1 14 (by decide +kernel) rfl
theorem wm_L_9 : Cond.methodLink RL 9 yX3_init ∈ WL := WL_1 15 (by decide +kernel) rfl
theorem wn_X3_init : Cond.instanceMethod yX3_init ∈ WL := WL_1 16 (by decide +kernel) rfl
theorem wc_X3_init : Cond.code yX3_init cX3_init 2 (Option.none : Option Jvm.ClassFile.FieldType) ∈ WL := WL_1 17 (by decide +kernel) rfl
theorem wm_X3_1 : Cond.methodLink RX3 1 objectInit ∈ WL := WL_1 18 (by decide +kernel) rfl
theorem wn_Object__init__a7 : Cond.instanceMethod objectInit ∈ WL := WL_1 19 (by decide +kernel) rfl
theorem wc_Object__init__a7 : Cond.code objectInit ⟨#[0xb1]⟩ 1 (Option.none : Option Jvm.ClassFile.FieldType) ∈ WL := WL_1 20 (by decide +kernel) rfl
theorem wk_X3_7 : Cond.classLink RX3 7 RX0 ∈ WL := WL_1 21 (by decide +kernel) rfl
theorem wj_X0 : Cond.instantiable RX0 4 ∈ WL := WL_1 22 (by decide +kernel) rfl
theorem wm_X3_9 : Cond.methodLink RX3 9 yX0_init ∈ WL := WL_1 23 (by decide +kernel) rfl
theorem wn_X0_init : Cond.instanceMethod yX0_init ∈ WL := WL_1 24 (by decide +kernel) rfl
theorem wc_X0_init : Cond.code yX0_init cX0_init 1 (Option.none : Option Jvm.ClassFile.FieldType) ∈ WL := WL_1 25 (by decide +kernel) rfl
theorem wm_X0_3 : Cond.methodLink RX0 3 objectInit ∈ WL := WL_1 26 (by decide +kernel) rfl
theorem wf_X0_9 : Cond.fieldLink RX0 9 "VarnishNight$Gallery" "hour" "I" ∈ WL := WL_1 27 (by decide +kernel) rfl
theorem wf_X3_60 : Cond.fieldLink RX3 60 "VarnishNight$Gallery" "hour" "I" ∈ WL := WL_1 28 (by decide +kernel) rfl
theorem wf_X0_15 : Cond.fieldLink RX0 15 "VarnishNight$Gallery" "tackyFrom" "I" ∈ WL := WL_1 29 (by decide +kernel) rfl
theorem wf_X3_56 : Cond.fieldLink RX3 56 "VarnishNight$Gallery" "tackyFrom" "I" ∈ WL := WL_1 30 (by decide +kernel) rfl
theorem wf_X2_71 : Cond.fieldLink RX2 71 "VarnishNight$Gallery" "tackyFrom" "I" ∈ WL := WL_1 31 (by decide +kernel) rfl
theorem wf_X0_18 : Cond.fieldLink RX0 18 "VarnishNight$Gallery" "figures" "I" ∈ WL := WL_1 32 (by decide +kernel) rfl
theorem wf_X2_92 : Cond.fieldLink RX2 92 "VarnishNight$Gallery" "figures" "I" ∈ WL := WL_1 33 (by decide +kernel) rfl
theorem wf_X3_148 : Cond.fieldLink RX3 148 "VarnishNight$Gallery" "figures" "I" ∈ WL := WL_1 34 (by decide +kernel) rfl
theorem wf_X0_21 : Cond.fieldLink RX0 21 "VarnishNight$Gallery" "cells" "[I" ∈ WL := WL_1 35 (by decide +kernel) rfl
theorem wy_X0_hour : Cond.lays "VarnishNight$Gallery" "VarnishNight$Gallery" "hour" "I" ∈ WL := WL_1 36 (by decide +kernel) rfl
theorem wy_X0_tackyFrom : Cond.lays "VarnishNight$Gallery" "VarnishNight$Gallery" "tackyFrom" "I" ∈ WL := WL_1 38 (by decide +kernel) rfl
theorem wy_X0_figures : Cond.lays "VarnishNight$Gallery" "VarnishNight$Gallery" "figures" "I" ∈ WL := WL_1 40 (by decide +kernel) rfl
theorem wy_X0_cells : Cond.laysFinal "VarnishNight$Gallery" "VarnishNight$Gallery" "cells" "[I" ∈ WL := WL_1 42 (by decide +kernel) rfl
theorem wa_int : Cond.arrayClass .int ∈ WL := WL_1 45 (by decide +kernel) rfl
theorem wk_X3_26 : Cond.classLink RX3 26 RX2 ∈ WL := WL_1 46 (by decide +kernel) rfl
theorem wj_X2 : Cond.instantiable RX2 7 ∈ WL := WL_1 47 (by decide +kernel) rfl
theorem wm_X3_28 : Cond.methodLink RX3 28 yX2_init ∈ WL := WL_1 48 (by decide +kernel) rfl
theorem wn_X2_init : Cond.instanceMethod yX2_init ∈ WL := WL_1 49 (by decide +kernel) rfl
theorem wc_X2_init : Cond.code yX2_init cX2_init 1 (Option.none : Option Jvm.ClassFile.FieldType) ∈ WL := WL_1 50 (by decide +kernel) rfl
theorem wm_X2_3 : Cond.methodLink RX2 3 objectInit ∈ WL := WL_1 51 (by decide +kernel) rfl
theorem wf_X2_9 : Cond.fieldLink RX2 9 "VarnishNight$Teller" "length" "I" ∈ WL := WL_1 52 (by decide +kernel) rfl
theorem wf_X3_165 : Cond.fieldLink RX3 165 "VarnishNight$Teller" "length" "I" ∈ WL := WL_1 53 (by decide +kernel) rfl
theorem wf_X2_15 : Cond.fieldLink RX2 15 "VarnishNight$Teller" "bytes" "[I" ∈ WL := WL_1 54 (by decide +kernel) rfl
theorem wf_X2_19 : Cond.fieldLink RX2 19 "VarnishNight$Teller" "token" "I" ∈ WL := WL_1 55 (by decide +kernel) rfl
theorem wf_X2_22 : Cond.fieldLink RX2 22 "VarnishNight$Teller" "begin" "I" ∈ WL := WL_1 56 (by decide +kernel) rfl
theorem wf_X2_25 : Cond.fieldLink RX2 25 "VarnishNight$Teller" "end" "I" ∈ WL := WL_1 57 (by decide +kernel) rfl
theorem wf_X2_28 : Cond.fieldLink RX2 28 "VarnishNight$Teller" "value" "I" ∈ WL := WL_1 58 (by decide +kernel) rfl
theorem wf_X2_31 : Cond.fieldLink RX2 31 "VarnishNight$Teller" "taken" "I" ∈ WL := WL_1 59 (by decide +kernel) rfl
theorem wy_X2_length : Cond.lays "VarnishNight$Teller" "VarnishNight$Teller" "length" "I" ∈ WL := WL_1 60 (by decide +kernel) rfl
theorem wy_X2_bytes : Cond.laysFinal "VarnishNight$Teller" "VarnishNight$Teller" "bytes" "[I" ∈ WL := WL_1 62 (by decide +kernel) rfl
theorem wy_X2_token : Cond.lays "VarnishNight$Teller" "VarnishNight$Teller" "token" "I" ∈ WL := WL_1 64 (by decide +kernel) rfl
theorem wy_X2_begin : Cond.lays "VarnishNight$Teller" "VarnishNight$Teller" "begin" "I" ∈ WL := WL_1 66 (by decide +kernel) rfl
theorem wy_X2_end : Cond.lays "VarnishNight$Teller" "VarnishNight$Teller" "end" "I" ∈ WL := WL_1 68 (by decide +kernel) rfl
theorem wy_X2_value : Cond.lays "VarnishNight$Teller" "VarnishNight$Teller" "value" "I" ∈ WL := WL_1 70 (by decide +kernel) rfl
theorem wy_X2_taken : Cond.lays "VarnishNight$Teller" "VarnishNight$Teller" "taken" "I" ∈ WL := WL_1 72 (by decide +kernel) rfl
theorem wk_X3_33 : Cond.classLink RX3 33 RX1 ∈ WL := WL_1 75 (by decide +kernel) rfl
theorem wj_X1 : Cond.instantiable RX1 3 ∈ WL := WL_1 77 (by decide +kernel) rfl
theorem wm_X3_39 : Cond.methodLink RX3 39 yX1_init ∈ WL := WL_1 78 (by decide +kernel) rfl
theorem wn_X1_init : Cond.instanceMethod yX1_init ∈ WL := WL_1 79 (by decide +kernel) rfl
theorem wc_X1_init : Cond.code yX1_init cX1_init 1 (Option.none : Option Jvm.ClassFile.FieldType) ∈ WL := WL_1 80 (by decide +kernel) rfl
theorem wm_X1_3 : Cond.methodLink RX1 3 objectInit ∈ WL := WL_1 81 (by decide +kernel) rfl
theorem wf_X1_9 : Cond.fieldLink RX1 9 "VarnishNight$Sheet" "bits" "I" ∈ WL := WL_1 82 (by decide +kernel) rfl
theorem wf_X3_195 : Cond.fieldLink RX3 195 "VarnishNight$Sheet" "bits" "I" ∈ WL := WL_1 83 (by decide +kernel) rfl
theorem wf_X1_15 : Cond.fieldLink RX1 15 "VarnishNight$Sheet" "length" "I" ∈ WL := WL_1 84 (by decide +kernel) rfl
theorem wf_X3_184 : Cond.fieldLink RX3 184 "VarnishNight$Sheet" "length" "I" ∈ WL := WL_1 85 (by decide +kernel) rfl
theorem wf_X1_18 : Cond.fieldLink RX1 18 "VarnishNight$Sheet" "numbers" "[J" ∈ WL := WL_1 86 (by decide +kernel) rfl
theorem wf_X3_200 : Cond.fieldLink RX3 200 "VarnishNight$Sheet" "numbers" "[J" ∈ WL := WL_1 87 (by decide +kernel) rfl
theorem wy_X1_bits : Cond.lays "VarnishNight$Sheet" "VarnishNight$Sheet" "bits" "I" ∈ WL := WL_1 88 (by decide +kernel) rfl
theorem wy_X1_length : Cond.lays "VarnishNight$Sheet" "VarnishNight$Sheet" "length" "I" ∈ WL := WL_1 90 (by decide +kernel) rfl
theorem wy_X1_numbers : Cond.laysFinal "VarnishNight$Sheet" "VarnishNight$Sheet" "numbers" "[J" ∈ WL := WL_1 92 (by decide +kernel) rfl
theorem wa_long : Cond.arrayClass .long ∈ WL := WL_1 95 (by decide +kernel) rfl
theorem wf_X3_10 : Cond.fieldLink RX3 10 "VarnishNight" "gallery" "LVarnishNight$Gallery;" ∈ WL := WL_1 96 (by decide +kernel) rfl
theorem wf_X3_16 : Cond.fieldLink RX3 16 "VarnishNight" "trial" "LVarnishNight$Gallery;" ∈ WL := WL_1 97 (by decide +kernel) rfl
theorem wf_X3_19 : Cond.fieldLink RX3 19 "VarnishNight" "kept" "LVarnishNight$Gallery;" ∈ WL := WL_1 98 (by decide +kernel) rfl
theorem wf_X3_22 : Cond.fieldLink RX3 22 "VarnishNight" "isKept" "Z" ∈ WL := WL_1 99 (by decide +kernel) rfl
theorem wf_X3_29 : Cond.fieldLink RX3 29 "VarnishNight" "teller" "LVarnishNight$Teller;" ∈ WL := WL_1 100 (by decide +kernel) rfl
theorem wf_X3_35 : Cond.fieldLink RX3 35 "VarnishNight" "sheets" "[LVarnishNight$Sheet;" ∈ WL := WL_1 101 (by decide +kernel) rfl
theorem wf_X3_40 : Cond.fieldLink RX3 40 "VarnishNight" "findings" "[I" ∈ WL := WL_1 102 (by decide +kernel) rfl
theorem wf_X3_44 : Cond.fieldLink RX3 44 "VarnishNight" "contentWith" "[I" ∈ WL := WL_1 103 (by decide +kernel) rfl
theorem wy_X3_gallery : Cond.laysFinal "VarnishNight" "VarnishNight" "gallery" "LVarnishNight$Gallery;" ∈ WL := WL_1 104 (by decide +kernel) rfl
theorem wy_X3_trial : Cond.laysFinal "VarnishNight" "VarnishNight" "trial" "LVarnishNight$Gallery;" ∈ WL := WL_1 106 (by decide +kernel) rfl
theorem wy_X3_kept : Cond.laysFinal "VarnishNight" "VarnishNight" "kept" "LVarnishNight$Gallery;" ∈ WL := WL_1 108 (by decide +kernel) rfl
theorem wy_X3_isKept : Cond.lays "VarnishNight" "VarnishNight" "isKept" "Z" ∈ WL := WL_1 110 (by decide +kernel) rfl
theorem wy_X3_teller : Cond.laysFinal "VarnishNight" "VarnishNight" "teller" "LVarnishNight$Teller;" ∈ WL := WL_1 112 (by decide +kernel) rfl
theorem wy_X3_sheets : Cond.laysFinal "VarnishNight" "VarnishNight" "sheets" "[LVarnishNight$Sheet;" ∈ WL := WL_1 114 (by decide +kernel) rfl
theorem wy_X3_findings : Cond.laysFinal "VarnishNight" "VarnishNight" "findings" "[I" ∈ WL := WL_1 116 (by decide +kernel) rfl
theorem wy_X3_contentWith : Cond.laysFinal "VarnishNight" "VarnishNight" "contentWith" "[I" ∈ WL := WL_1 118 (by decide +kernel) rfl
theorem wm_L_13 : Cond.methodLink RL 13 yX3_tacky ∈ WL := WL_1 121 (by decide +kernel) rfl
theorem wn_X3_tacky : Cond.instanceMethod yX3_tacky ∈ WL := WL_1 122 (by decide +kernel) rfl
theorem wl_X3_tacky : Cond.selects RX3 yX3_tacky yX3_tacky ∈ WL := WL_1 123 (by decide +kernel) rfl
theorem wc_X3_tacky : Cond.code yX3_tacky cX3_tacky 3 (Option.some Jvm.ClassFile.FieldType.int) ∈ WL := WL_1 124 (by decide +kernel) rfl
theorem wm_X3_47 : Cond.methodLink RX3 47 yX3_isOutside ∈ WL := WL_1 125 (by decide +kernel) rfl
theorem wt_X3_isOutside : Cond.static yX3_isOutside ∈ WL := WL_1 126 (by decide +kernel) rfl
theorem wc_X3_isOutside : Cond.code yX3_isOutside cX3_isOutside 3 (Option.some Jvm.ClassFile.FieldType.boolean) ∈ WL := WL_1 127 (by decide +kernel) rfl
theorem wq_X3_51 : Cond.constant RX3 51 (-1000000001 : Int32) ∈ WL := WL_1 128 (by decide +kernel) rfl
theorem wm_X3_52 : Cond.methodLink RX3 52 yX3_finding ∈ WL := WL_1 129 (by decide +kernel) rfl
theorem wn_X3_finding : Cond.instanceMethod yX3_finding ∈ WL := WL_1 131 (by decide +kernel) rfl
theorem wc_X3_finding : Cond.code yX3_finding cX3_finding 3 (Option.some Jvm.ClassFile.FieldType.int) ∈ WL := WL_1 132 (by decide +kernel) rfl
theorem wm_L_18 : Cond.methodLink RL 18 yX3_now ∈ WL := WL_1 133 (by decide +kernel) rfl
theorem wn_X3_now : Cond.instanceMethod yX3_now ∈ WL := WL_1 134 (by decide +kernel) rfl
theorem wl_X3_now : Cond.selects RX3 yX3_now yX3_now ∈ WL := WL_1 135 (by decide +kernel) rfl
theorem wc_X3_now : Cond.code yX3_now cX3_now 2 (Option.some Jvm.ClassFile.FieldType.int) ∈ WL := WL_1 136 (by decide +kernel) rfl
theorem wm_X3_63 : Cond.methodLink RX3 63 yX0_hourOfNight ∈ WL := WL_1 137 (by decide +kernel) rfl
theorem wn_X0_hourOfNight : Cond.instanceMethod yX0_hourOfNight ∈ WL := WL_1 138 (by decide +kernel) rfl
theorem wl_X0_hourOfNight : Cond.selects RX0 yX0_hourOfNight yX0_hourOfNight ∈ WL := WL_1 139 (by decide +kernel) rfl
theorem wc_X0_hourOfNight : Cond.code yX0_hourOfNight cX0_hourOfNight 1 (Option.some Jvm.ClassFile.FieldType.int) ∈ WL := WL_1 140 (by decide +kernel) rfl
theorem wm_X3_67 : Cond.methodLink RX3 67 yX0_isTacky ∈ WL := WL_1 141 (by decide +kernel) rfl
theorem wn_X0_isTacky : Cond.instanceMethod yX0_isTacky ∈ WL := WL_1 142 (by decide +kernel) rfl
theorem wl_X0_isTacky : Cond.selects RX0 yX0_isTacky yX0_isTacky ∈ WL := WL_1 143 (by decide +kernel) rfl
theorem wc_X0_isTacky : Cond.code yX0_isTacky cX0_isTacky 1 (Option.some Jvm.ClassFile.FieldType.boolean) ∈ WL := WL_1 144 (by decide +kernel) rfl
theorem wm_X0_35 : Cond.methodLink RX0 35 yX0_hourOfNight ∈ WL := WL_1 145 (by decide +kernel) rfl
theorem wm_X3_71 : Cond.methodLink RX3 71 yX0_whoIsContent ∈ WL := WL_1 146 (by decide +kernel) rfl
theorem wn_X0_whoIsContent : Cond.instanceMethod yX0_whoIsContent ∈ WL := WL_1 147 (by decide +kernel) rfl
theorem wl_X0_whoIsContent : Cond.selects RX0 yX0_whoIsContent yX0_whoIsContent ∈ WL := WL_1 148 (by decide +kernel) rfl
theorem wc_X0_whoIsContent : Cond.code yX0_whoIsContent cX0_whoIsContent 3 (Option.some Jvm.ClassFile.FieldType.int) ∈ WL := WL_1 149 (by decide +kernel) rfl
theorem wm_X0_43 : Cond.methodLink RX0 43 yX0_isContent ∈ WL := WL_1 150 (by decide +kernel) rfl
theorem wn_X0_isContent : Cond.instanceMethod yX0_isContent ∈ WL := WL_1 151 (by decide +kernel) rfl
theorem wl_X0_isContent : Cond.selects RX0 yX0_isContent yX0_isContent ∈ WL := WL_1 152 (by decide +kernel) rfl
theorem wc_X0_isContent : Cond.code yX0_isContent cX0_isContent 5 (Option.some Jvm.ClassFile.FieldType.boolean) ∈ WL := WL_1 153 (by decide +kernel) rfl
theorem wm_X0_39 : Cond.methodLink RX0 39 yX0_get ∈ WL := WL_1 154 (by decide +kernel) rfl
theorem wn_X0_get : Cond.instanceMethod yX0_get ∈ WL := WL_1 155 (by decide +kernel) rfl
theorem wl_X0_get : Cond.selects RX0 yX0_get yX0_get ∈ WL := WL_1 156 (by decide +kernel) rfl
theorem wc_X0_get : Cond.code yX0_get cX0_get 4 (Option.some Jvm.ClassFile.FieldType.int) ∈ WL := WL_1 157 (by decide +kernel) rfl
theorem wm_X0_67 : Cond.methodLink RX0 67 yX0_lacks ∈ WL := WL_1 158 (by decide +kernel) rfl
theorem wn_X0_lacks : Cond.instanceMethod yX0_lacks ∈ WL := WL_1 159 (by decide +kernel) rfl
theorem wl_X0_lacks : Cond.selects RX0 yX0_lacks yX0_lacks ∈ WL := WL_1 160 (by decide +kernel) rfl
theorem wc_X0_lacks : Cond.code yX0_lacks cX0_lacks 2 (Option.some Jvm.ClassFile.FieldType.boolean) ∈ WL := WL_1 161 (by decide +kernel) rfl
theorem wm_X0_62 : Cond.methodLink RX0 62 yJ9_abs_0f7a4 ∈ WL := WL_1 162 (by decide +kernel) rfl
theorem wt_J9_abs_0f7a4 : Cond.static yJ9_abs_0f7a4 ∈ WL := WL_1 163 (by decide +kernel) rfl
theorem wc_J9_abs_0f7a4 : Cond.code yJ9_abs_0f7a4 cJ9_abs_0f7a4 1 (Option.some Jvm.ClassFile.FieldType.int) ∈ WL := WL_1 164 (by decide +kernel) rfl
theorem wm_X3_74 : Cond.methodLink RX3 74 yX0_whoIsWaiting ∈ WL := WL_1 165 (by decide +kernel) rfl
theorem wn_X0_whoIsWaiting : Cond.instanceMethod yX0_whoIsWaiting ∈ WL := WL_1 166 (by decide +kernel) rfl
theorem wl_X0_whoIsWaiting : Cond.selects RX0 yX0_whoIsWaiting yX0_whoIsWaiting ∈ WL := WL_1 167 (by decide +kernel) rfl
theorem wc_X0_whoIsWaiting : Cond.code yX0_whoIsWaiting cX0_whoIsWaiting 3 (Option.some Jvm.ClassFile.FieldType.int) ∈ WL := WL_1 168 (by decide +kernel) rfl
theorem wm_X0_47 : Cond.methodLink RX0 47 yX0_isWaiting ∈ WL := WL_1 169 (by decide +kernel) rfl
theorem wn_X0_isWaiting : Cond.instanceMethod yX0_isWaiting ∈ WL := WL_1 170 (by decide +kernel) rfl
theorem wl_X0_isWaiting : Cond.selects RX0 yX0_isWaiting yX0_isWaiting ∈ WL := WL_1 171 (by decide +kernel) rfl
theorem wc_X0_isWaiting : Cond.code yX0_isWaiting cX0_isWaiting 2 (Option.some Jvm.ClassFile.FieldType.boolean) ∈ WL := WL_1 172 (by decide +kernel) rfl
theorem wm_X0_77 : Cond.methodLink RX0 77 yX0_isSeenByAnother ∈ WL := WL_1 173 (by decide +kernel) rfl
theorem wn_X0_isSeenByAnother : Cond.instanceMethod yX0_isSeenByAnother ∈ WL := WL_1 175 (by decide +kernel) rfl
theorem wc_X0_isSeenByAnother : Cond.code yX0_isSeenByAnother cX0_isSeenByAnother 2 (Option.some Jvm.ClassFile.FieldType.boolean) ∈ WL := WL_1 176 (by decide +kernel) rfl
theorem wm_X0_50 : Cond.methodLink RX0 50 yX0_lampsOn ∈ WL := WL_1 177 (by decide +kernel) rfl
theorem wn_X0_lampsOn : Cond.instanceMethod yX0_lampsOn ∈ WL := WL_1 178 (by decide +kernel) rfl
theorem wl_X0_lampsOn : Cond.selects RX0 yX0_lampsOn yX0_lampsOn ∈ WL := WL_1 179 (by decide +kernel) rfl
theorem wc_X0_lampsOn : Cond.code yX0_lampsOn cX0_lampsOn 6 (Option.some Jvm.ClassFile.FieldType.int) ∈ WL := WL_1 180 (by decide +kernel) rfl
theorem wm_X0_80 : Cond.methodLink RX0 80 yX0_isAnotherDiscontent ∈ WL := WL_1 181 (by decide +kernel) rfl
theorem wn_X0_isAnotherDiscontent : Cond.instanceMethod yX0_isAnotherDiscontent ∈ WL := WL_1 183 (by decide +kernel) rfl
theorem wc_X0_isAnotherDiscontent : Cond.code yX0_isAnotherDiscontent cX0_isAnotherDiscontent 4 (Option.some Jvm.ClassFile.FieldType.boolean) ∈ WL := WL_1 184 (by decide +kernel) rfl
theorem wm_X3_77 : Cond.methodLink RX3 77 yX0_whoIsSeen ∈ WL := WL_1 185 (by decide +kernel) rfl
theorem wn_X0_whoIsSeen : Cond.instanceMethod yX0_whoIsSeen ∈ WL := WL_1 186 (by decide +kernel) rfl
theorem wl_X0_whoIsSeen : Cond.selects RX0 yX0_whoIsSeen yX0_whoIsSeen ∈ WL := WL_1 187 (by decide +kernel) rfl
theorem wc_X0_whoIsSeen : Cond.code yX0_whoIsSeen cX0_whoIsSeen 3 (Option.some Jvm.ClassFile.FieldType.int) ∈ WL := WL_1 188 (by decide +kernel) rfl
theorem wm_X3_80 : Cond.methodLink RX3 80 yX0_whoHas ∈ WL := WL_1 189 (by decide +kernel) rfl
theorem wn_X0_whoHas : Cond.instanceMethod yX0_whoHas ∈ WL := WL_1 190 (by decide +kernel) rfl
theorem wl_X0_whoHas : Cond.selects RX0 yX0_whoHas yX0_whoHas ∈ WL := WL_1 191 (by decide +kernel) rfl
theorem wc_X0_whoHas : Cond.code yX0_whoHas cX0_whoHas 5 (Option.some Jvm.ClassFile.FieldType.int) ∈ WL := WL_1 192 (by decide +kernel) rfl
theorem wm_X3_84 : Cond.methodLink RX3 84 yX0_sum ∈ WL := WL_1 193 (by decide +kernel) rfl
theorem wn_X0_sum : Cond.instanceMethod yX0_sum ∈ WL := WL_1 194 (by decide +kernel) rfl
theorem wl_X0_sum : Cond.selects RX0 yX0_sum yX0_sum ∈ WL := WL_1 195 (by decide +kernel) rfl
theorem wc_X0_sum : Cond.code yX0_sum cX0_sum 4 (Option.some Jvm.ClassFile.FieldType.int) ∈ WL := WL_1 196 (by decide +kernel) rfl
theorem wm_L_22 : Cond.methodLink RL 22 yX3_hangs ∈ WL := WL_1 197 (by decide +kernel) rfl
theorem wn_X3_hangs : Cond.instanceMethod yX3_hangs ∈ WL := WL_1 198 (by decide +kernel) rfl
theorem wl_X3_hangs : Cond.selects RX3 yX3_hangs yX3_hangs ∈ WL := WL_1 199 (by decide +kernel) rfl
theorem wc_X3_hangs : Cond.code yX3_hangs cX3_hangs 2 (Option.some Jvm.ClassFile.FieldType.int) ∈ WL := WL_1 200 (by decide +kernel) rfl
theorem wm_L_26 : Cond.methodLink RL 26 yX3_figure ∈ WL := WL_1 201 (by decide +kernel) rfl
theorem wn_X3_figure : Cond.instanceMethod yX3_figure ∈ WL := WL_1 202 (by decide +kernel) rfl
theorem wl_X3_figure : Cond.selects RX3 yX3_figure yX3_figure ∈ WL := WL_1 203 (by decide +kernel) rfl
theorem wc_X3_figure : Cond.code yX3_figure cX3_figure 4 (Option.some Jvm.ClassFile.FieldType.int) ∈ WL := WL_1 204 (by decide +kernel) rfl
theorem wm_X3_87 : Cond.methodLink RX3 87 yX0_isFull ∈ WL := WL_1 205 (by decide +kernel) rfl
theorem wn_X0_isFull : Cond.instanceMethod yX0_isFull ∈ WL := WL_1 206 (by decide +kernel) rfl
theorem wl_X0_isFull : Cond.selects RX0 yX0_isFull yX0_isFull ∈ WL := WL_1 207 (by decide +kernel) rfl
theorem wc_X0_isFull : Cond.code yX0_isFull cX0_isFull 1 (Option.some Jvm.ClassFile.FieldType.boolean) ∈ WL := WL_1 208 (by decide +kernel) rfl
theorem wq_X3_90 : Cond.constant RX3 90 (-1000000002 : Int32) ∈ WL := WL_1 209 (by decide +kernel) rfl
theorem wm_X3_91 : Cond.methodLink RX3 91 yX0_hang ∈ WL := WL_1 210 (by decide +kernel) rfl
theorem wn_X0_hang : Cond.instanceMethod yX0_hang ∈ WL := WL_1 211 (by decide +kernel) rfl
theorem wl_X0_hang : Cond.selects RX0 yX0_hang yX0_hang ∈ WL := WL_1 212 (by decide +kernel) rfl
theorem wc_X0_hang : Cond.code yX0_hang cX0_hang 5 (Option.some Jvm.ClassFile.FieldType.int) ∈ WL := WL_1 213 (by decide +kernel) rfl
theorem wm_X0_31 : Cond.methodLink RX0 31 yX0_put ∈ WL := WL_1 214 (by decide +kernel) rfl
theorem wn_X0_put : Cond.instanceMethod yX0_put ∈ WL := WL_1 215 (by decide +kernel) rfl
theorem wl_X0_put : Cond.selects RX0 yX0_put yX0_put ∈ WL := WL_1 216 (by decide +kernel) rfl
theorem wc_X0_put : Cond.code yX0_put cX0_put 5 (Option.none : Option Jvm.ClassFile.FieldType) ∈ WL := WL_1 217 (by decide +kernel) rfl
theorem wm_L_31 : Cond.methodLink RL 31 yX3_of ∈ WL := WL_1 218 (by decide +kernel) rfl
theorem wn_X3_of : Cond.instanceMethod yX3_of ∈ WL := WL_1 219 (by decide +kernel) rfl
theorem wl_X3_of : Cond.selects RX3 yX3_of yX3_of ∈ WL := WL_1 220 (by decide +kernel) rfl
theorem wc_X3_of : Cond.code yX3_of cX3_of 3 (Option.some Jvm.ClassFile.FieldType.int) ∈ WL := WL_1 221 (by decide +kernel) rfl
theorem wm_X3_95 : Cond.methodLink RX3 95 yX0_lacks ∈ WL := WL_1 222 (by decide +kernel) rfl
theorem wm_X3_99 : Cond.methodLink RX3 99 yX0_rubs ∈ WL := WL_1 223 (by decide +kernel) rfl
theorem wn_X0_rubs : Cond.instanceMethod yX0_rubs ∈ WL := WL_1 224 (by decide +kernel) rfl
theorem wl_X0_rubs : Cond.selects RX0 yX0_rubs yX0_rubs ∈ WL := WL_1 225 (by decide +kernel) rfl
theorem wc_X0_rubs : Cond.code yX0_rubs cX0_rubs 4 (Option.some Jvm.ClassFile.FieldType.int) ∈ WL := WL_1 226 (by decide +kernel) rfl
theorem wm_X0_70 : Cond.methodLink RX0 70 yX0_isTacky ∈ WL := WL_1 227 (by decide +kernel) rfl
theorem wm_X0_74 : Cond.methodLink RX0 74 yX0_whoHas ∈ WL := WL_1 228 (by decide +kernel) rfl
theorem wm_X0_57 : Cond.methodLink RX0 57 yJ6_bitCount_0f7a4 ∈ WL := WL_1 229 (by decide +kernel) rfl
theorem wt_J6_bitCount_0f7a4 : Cond.static yJ6_bitCount_0f7a4 ∈ WL := WL_1 230 (by decide +kernel) rfl
theorem wc_J6_bitCount_0f7a4 : Cond.code yJ6_bitCount_0f7a4 cJ6_bitCount_0f7a4 1 (Option.some Jvm.ClassFile.FieldType.int) ∈ WL := WL_1 231 (by decide +kernel) rfl
theorem wq_J6_265 : Cond.constant RJ6 265 (1431655765 : Int32) ∈ WL := WL_1 232 (by decide +kernel) rfl
theorem wq_J6_266 : Cond.constant RJ6 266 (858993459 : Int32) ∈ WL := WL_1 233 (by decide +kernel) rfl
theorem wq_J6_267 : Cond.constant RJ6 267 (252645135 : Int32) ∈ WL := WL_1 234 (by decide +kernel) rfl
theorem wm_X3_102 : Cond.methodLink RX3 102 yX0_isWaiting ∈ WL := WL_1 235 (by decide +kernel) rfl
theorem wm_X3_105 : Cond.methodLink RX3 105 yX0_isContent ∈ WL := WL_1 236 (by decide +kernel) rfl
theorem wm_X3_108 : Cond.methodLink RX3 108 yX0_get ∈ WL := WL_1 237 (by decide +kernel) rfl
theorem wm_L_36 : Cond.methodLink RL 36 yX3_set ∈ WL := WL_1 238 (by decide +kernel) rfl
theorem wn_X3_set : Cond.instanceMethod yX3_set ∈ WL := WL_1 239 (by decide +kernel) rfl
theorem wl_X3_set : Cond.selects RX3 yX3_set yX3_set ∈ WL := WL_2 0 (by decide +kernel) rfl
theorem wc_X3_set : Cond.code yX3_set cX3_set 5 (Option.some Jvm.ClassFile.FieldType.int) ∈ WL := WL_2 1 (by decide +kernel) rfl
theorem wm_X3_111 : Cond.methodLink RX3 111 yX3_least ∈ WL := WL_2 2 (by decide +kernel) rfl
theorem wt_X3_least : Cond.static yX3_least ∈ WL := WL_2 3 (by decide +kernel) rfl
theorem wc_X3_least : Cond.code yX3_least cX3_least 1 (Option.some Jvm.ClassFile.FieldType.int) ∈ WL := WL_2 4 (by decide +kernel) rfl
theorem wm_X3_114 : Cond.methodLink RX3 114 yX3_greatest ∈ WL := WL_2 5 (by decide +kernel) rfl
theorem wn_X3_greatest : Cond.instanceMethod yX3_greatest ∈ WL := WL_2 7 (by decide +kernel) rfl
theorem wc_X3_greatest : Cond.code yX3_greatest cX3_greatest 2 (Option.some Jvm.ClassFile.FieldType.int) ∈ WL := WL_2 8 (by decide +kernel) rfl
theorem wm_X3_117 : Cond.methodLink RX3 117 yX0_put ∈ WL := WL_2 9 (by decide +kernel) rfl
theorem wm_L_40 : Cond.methodLink RL 40 yX3_seen ∈ WL := WL_2 10 (by decide +kernel) rfl
theorem wn_X3_seen : Cond.instanceMethod yX3_seen ∈ WL := WL_2 11 (by decide +kernel) rfl
theorem wl_X3_seen : Cond.selects RX3 yX3_seen yX3_seen ∈ WL := WL_2 12 (by decide +kernel) rfl
theorem wc_X3_seen : Cond.code yX3_seen cX3_seen 2 (Option.some Jvm.ClassFile.FieldType.int) ∈ WL := WL_2 13 (by decide +kernel) rfl
theorem wm_X3_121 : Cond.methodLink RX3 121 yX0_lampsOn ∈ WL := WL_2 14 (by decide +kernel) rfl
theorem wm_L_44 : Cond.methodLink RL 44 yX3_turn ∈ WL := WL_2 15 (by decide +kernel) rfl
theorem wn_X3_turn : Cond.instanceMethod yX3_turn ∈ WL := WL_2 16 (by decide +kernel) rfl
theorem wl_X3_turn : Cond.selects RX3 yX3_turn yX3_turn ∈ WL := WL_2 17 (by decide +kernel) rfl
theorem wc_X3_turn : Cond.code yX3_turn cX3_turn 4 (Option.some Jvm.ClassFile.FieldType.int) ∈ WL := WL_2 18 (by decide +kernel) rfl
theorem wm_L_48 : Cond.methodLink RL 48 yX3_as ∈ WL := WL_2 19 (by decide +kernel) rfl
theorem wn_X3_as : Cond.instanceMethod yX3_as ∈ WL := WL_2 20 (by decide +kernel) rfl
theorem wl_X3_as : Cond.selects RX3 yX3_as yX3_as ∈ WL := WL_2 21 (by decide +kernel) rfl
theorem wc_X3_as : Cond.code yX3_as cX3_as 3 (Option.some Jvm.ClassFile.FieldType.int) ∈ WL := WL_2 22 (by decide +kernel) rfl
theorem wm_X3_124 : Cond.methodLink RX3 124 yX3_isUnder ∈ WL := WL_2 23 (by decide +kernel) rfl
theorem wt_X3_isUnder : Cond.static yX3_isUnder ∈ WL := WL_2 24 (by decide +kernel) rfl
theorem wc_X3_isUnder : Cond.code yX3_isUnder cX3_isUnder 2 (Option.some Jvm.ClassFile.FieldType.boolean) ∈ WL := WL_2 25 (by decide +kernel) rfl
theorem wm_X3_219 : Cond.methodLink RX3 219 yX3_kindAbove ∈ WL := WL_2 26 (by decide +kernel) rfl
theorem wt_X3_kindAbove : Cond.static yX3_kindAbove ∈ WL := WL_2 27 (by decide +kernel) rfl
theorem wc_X3_kindAbove : Cond.code yX3_kindAbove cX3_kindAbove 1 (Option.some Jvm.ClassFile.FieldType.int) ∈ WL := WL_2 28 (by decide +kernel) rfl
theorem wq_X3_128 : Cond.constant RX3 128 (-1000000003 : Int32) ∈ WL := WL_2 29 (by decide +kernel) rfl
theorem wm_L_52 : Cond.methodLink RL 52 yX3_hours ∈ WL := WL_2 30 (by decide +kernel) rfl
theorem wn_X3_hours : Cond.instanceMethod yX3_hours ∈ WL := WL_2 31 (by decide +kernel) rfl
theorem wl_X3_hours : Cond.selects RX3 yX3_hours yX3_hours ∈ WL := WL_2 32 (by decide +kernel) rfl
theorem wc_X3_hours : Cond.code yX3_hours cX3_hours 2 (Option.some Jvm.ClassFile.FieldType.int) ∈ WL := WL_2 33 (by decide +kernel) rfl
theorem wq_X3_129 : Cond.constant RX3 129 (99999 : Int32) ∈ WL := WL_2 34 (by decide +kernel) rfl
theorem wq_X3_130 : Cond.constant RX3 130 (-1000000005 : Int32) ∈ WL := WL_2 35 (by decide +kernel) rfl
theorem wm_X3_131 : Cond.methodLink RX3 131 yX0_pass ∈ WL := WL_2 36 (by decide +kernel) rfl
theorem wn_X0_pass : Cond.instanceMethod yX0_pass ∈ WL := WL_2 37 (by decide +kernel) rfl
theorem wl_X0_pass : Cond.selects RX0 yX0_pass yX0_pass ∈ WL := WL_2 38 (by decide +kernel) rfl
theorem wc_X0_pass : Cond.code yX0_pass cX0_pass 4 (Option.none : Option Jvm.ClassFile.FieldType) ∈ WL := WL_2 39 (by decide +kernel) rfl
theorem wm_X0_83 : Cond.methodLink RX0 83 yX0_haveAGo ∈ WL := WL_2 40 (by decide +kernel) rfl
theorem wn_X0_haveAGo : Cond.instanceMethod yX0_haveAGo ∈ WL := WL_2 42 (by decide +kernel) rfl
theorem wc_X0_haveAGo : Cond.code yX0_haveAGo cX0_haveAGo 3 (Option.none : Option Jvm.ClassFile.FieldType) ∈ WL := WL_2 43 (by decide +kernel) rfl
theorem wm_X0_87 : Cond.methodLink RX0 87 yX0_rubs ∈ WL := WL_2 44 (by decide +kernel) rfl
theorem wm_X0_90 : Cond.methodLink RX0 90 yX0_isChangedBy ∈ WL := WL_2 45 (by decide +kernel) rfl
theorem wn_X0_isChangedBy : Cond.instanceMethod yX0_isChangedBy ∈ WL := WL_2 47 (by decide +kernel) rfl
theorem wc_X0_isChangedBy : Cond.code yX0_isChangedBy cX0_isChangedBy 3 (Option.some Jvm.ClassFile.FieldType.boolean) ∈ WL := WL_2 48 (by decide +kernel) rfl
theorem wm_X0_97 : Cond.methodLink RX0 97 yJ9_max_7cf53 ∈ WL := WL_2 49 (by decide +kernel) rfl
theorem wt_J9_max_7cf53 : Cond.static yJ9_max_7cf53 ∈ WL := WL_2 50 (by decide +kernel) rfl
theorem wc_J9_max_7cf53 : Cond.code yJ9_max_7cf53 cJ9_max_7cf53 2 (Option.some Jvm.ClassFile.FieldType.int) ∈ WL := WL_2 51 (by decide +kernel) rfl
theorem wm_X0_100 : Cond.methodLink RX0 100 yX0_replace ∈ WL := WL_2 52 (by decide +kernel) rfl
theorem wn_X0_replace : Cond.instanceMethod yX0_replace ∈ WL := WL_2 54 (by decide +kernel) rfl
theorem wc_X0_replace : Cond.code yX0_replace cX0_replace 5 (Option.some Jvm.ClassFile.FieldType.boolean) ∈ WL := WL_2 55 (by decide +kernel) rfl
theorem wm_X0_104 : Cond.methodLink RX0 104 yX0_nearer ∈ WL := WL_2 56 (by decide +kernel) rfl
theorem wn_X0_nearer : Cond.instanceMethod yX0_nearer ∈ WL := WL_2 58 (by decide +kernel) rfl
theorem wc_X0_nearer : Cond.code yX0_nearer cX0_nearer 5 (Option.some Jvm.ClassFile.FieldType.int) ∈ WL := WL_2 59 (by decide +kernel) rfl
theorem wm_X0_94 : Cond.methodLink RX0 94 yJ9_min_7cf53 ∈ WL := WL_2 60 (by decide +kernel) rfl
theorem wt_J9_min_7cf53 : Cond.static yJ9_min_7cf53 ∈ WL := WL_2 61 (by decide +kernel) rfl
theorem wc_J9_min_7cf53 : Cond.code yJ9_min_7cf53 cJ9_min_7cf53 2 (Option.some Jvm.ClassFile.FieldType.int) ∈ WL := WL_2 62 (by decide +kernel) rfl
theorem wm_X0_107 : Cond.methodLink RX0 107 yX0_farther ∈ WL := WL_2 63 (by decide +kernel) rfl
theorem wn_X0_farther : Cond.instanceMethod yX0_farther ∈ WL := WL_2 65 (by decide +kernel) rfl
theorem wc_X0_farther : Cond.code yX0_farther cX0_farther 4 (Option.some Jvm.ClassFile.FieldType.int) ∈ WL := WL_2 66 (by decide +kernel) rfl
theorem wm_L_56 : Cond.methodLink RL 56 yX3_on ∈ WL := WL_2 67 (by decide +kernel) rfl
theorem wn_X3_on : Cond.instanceMethod yX3_on ∈ WL := WL_2 68 (by decide +kernel) rfl
theorem wl_X3_on : Cond.selects RX3 yX3_on yX3_on ∈ WL := WL_2 69 (by decide +kernel) rfl
theorem wc_X3_on : Cond.code yX3_on cX3_on 4 (Option.some Jvm.ClassFile.FieldType.int) ∈ WL := WL_2 70 (by decide +kernel) rfl
theorem wm_X3_135 : Cond.methodLink RX3 135 yX0_become ∈ WL := WL_2 71 (by decide +kernel) rfl
theorem wn_X0_become : Cond.instanceMethod yX0_become ∈ WL := WL_2 72 (by decide +kernel) rfl
theorem wl_X0_become : Cond.selects RX0 yX0_become yX0_become ∈ WL := WL_2 73 (by decide +kernel) rfl
theorem wc_X0_become : Cond.code yX0_become cX0_become 2 (Option.none : Option Jvm.ClassFile.FieldType) ∈ WL := WL_2 74 (by decide +kernel) rfl
theorem wm_X0_25 : Cond.methodLink RX0 25 arraycopyName ∈ WL := WL_2 75 (by decide +kernel) rfl
theorem wt_System_arraycopy_e82 : Cond.static arraycopyName ∈ WL := WL_2 76 (by decide +kernel) rfl
theorem wv_System_arraycopy_e82 : Cond.native arraycopyName ∈ WL := WL_2 77 (by decide +kernel) rfl
theorem wm_L_60 : Cond.methodLink RL 60 yX3_when ∈ WL := WL_2 78 (by decide +kernel) rfl
theorem wn_X3_when : Cond.instanceMethod yX3_when ∈ WL := WL_2 79 (by decide +kernel) rfl
theorem wl_X3_when : Cond.selects RX3 yX3_when yX3_when ∈ WL := WL_2 80 (by decide +kernel) rfl
theorem wc_X3_when : Cond.code yX3_when cX3_when 2 (Option.some Jvm.ClassFile.FieldType.int) ∈ WL := WL_2 81 (by decide +kernel) rfl
theorem wm_X3_139 : Cond.methodLink RX3 139 yX3_firstContent ∈ WL := WL_2 82 (by decide +kernel) rfl
theorem wn_X3_firstContent : Cond.instanceMethod yX3_firstContent ∈ WL := WL_2 84 (by decide +kernel) rfl
theorem wc_X3_firstContent : Cond.code yX3_firstContent cX3_firstContent 3 (Option.some Jvm.ClassFile.FieldType.int) ∈ WL := WL_2 85 (by decide +kernel) rfl
theorem wq_X3_154 : Cond.constant RX3 154 (-1000000004 : Int32) ∈ WL := WL_2 86 (by decide +kernel) rfl
theorem wm_L_64 : Cond.methodLink RL 64 yX3_all ∈ WL := WL_2 87 (by decide +kernel) rfl
theorem wn_X3_all : Cond.instanceMethod yX3_all ∈ WL := WL_2 88 (by decide +kernel) rfl
theorem wl_X3_all : Cond.selects RX3 yX3_all yX3_all ∈ WL := WL_2 89 (by decide +kernel) rfl
theorem wc_X3_all : Cond.code yX3_all cX3_all 1 (Option.some Jvm.ClassFile.FieldType.int) ∈ WL := WL_2 90 (by decide +kernel) rfl
theorem wm_X3_142 : Cond.methodLink RX3 142 yX0_everybody ∈ WL := WL_2 91 (by decide +kernel) rfl
theorem wn_X0_everybody : Cond.instanceMethod yX0_everybody ∈ WL := WL_2 92 (by decide +kernel) rfl
theorem wl_X0_everybody : Cond.selects RX0 yX0_everybody yX0_everybody ∈ WL := WL_2 93 (by decide +kernel) rfl
theorem wc_X0_everybody : Cond.code yX0_everybody cX0_everybody 1 (Option.some Jvm.ClassFile.FieldType.int) ∈ WL := WL_2 94 (by decide +kernel) rfl
theorem wm_L_69 : Cond.methodLink RL 69 yX3_many ∈ WL := WL_2 95 (by decide +kernel) rfl
theorem wn_X3_many : Cond.instanceMethod yX3_many ∈ WL := WL_2 96 (by decide +kernel) rfl
theorem wl_X3_many : Cond.selects RX3 yX3_many yX3_many ∈ WL := WL_2 97 (by decide +kernel) rfl
theorem wc_X3_many : Cond.code yX3_many cX3_many 2 (Option.some Jvm.ClassFile.FieldType.int) ∈ WL := WL_2 98 (by decide +kernel) rfl
theorem wm_X3_145 : Cond.methodLink RX3 145 yX0_howManyContent ∈ WL := WL_2 99 (by decide +kernel) rfl
theorem wn_X0_howManyContent : Cond.instanceMethod yX0_howManyContent ∈ WL := WL_2 100 (by decide +kernel) rfl
theorem wl_X0_howManyContent : Cond.selects RX0 yX0_howManyContent yX0_howManyContent ∈ WL := WL_2 101 (by decide +kernel) rfl
theorem wc_X0_howManyContent : Cond.code yX0_howManyContent cX0_howManyContent 1 (Option.some Jvm.ClassFile.FieldType.int) ∈ WL := WL_2 102 (by decide +kernel) rfl
theorem wm_X0_54 : Cond.methodLink RX0 54 yX0_whoIsContent ∈ WL := WL_2 103 (by decide +kernel) rfl
theorem wm_L_73 : Cond.methodLink RL 73 yX3_porter ∈ WL := WL_2 104 (by decide +kernel) rfl
theorem wn_X3_porter : Cond.instanceMethod yX3_porter ∈ WL := WL_2 105 (by decide +kernel) rfl
theorem wl_X3_porter : Cond.selects RX3 yX3_porter yX3_porter ∈ WL := WL_2 106 (by decide +kernel) rfl
theorem wc_X3_porter : Cond.code yX3_porter cX3_porter 6 (Option.some Jvm.ClassFile.FieldType.int) ∈ WL := WL_2 107 (by decide +kernel) rfl
theorem wm_X3_151 : Cond.methodLink RX3 151 yX3_suppose ∈ WL := WL_2 108 (by decide +kernel) rfl
theorem wn_X3_suppose : Cond.instanceMethod yX3_suppose ∈ WL := WL_2 110 (by decide +kernel) rfl
theorem wc_X3_suppose : Cond.code yX3_suppose cX3_suppose 4 (Option.none : Option Jvm.ClassFile.FieldType) ∈ WL := WL_2 111 (by decide +kernel) rfl
theorem wm_L_77 : Cond.methodLink RL 77 yX3_by ∈ WL := WL_2 112 (by decide +kernel) rfl
theorem wn_X3_by : Cond.instanceMethod yX3_by ∈ WL := WL_2 113 (by decide +kernel) rfl
theorem wl_X3_by : Cond.selects RX3 yX3_by yX3_by ∈ WL := WL_2 114 (by decide +kernel) rfl
theorem wc_X3_by : Cond.code yX3_by cX3_by 4 (Option.some Jvm.ClassFile.FieldType.int) ∈ WL := WL_2 115 (by decide +kernel) rfl
theorem wm_L_81 : Cond.methodLink RL 81 yX3_kind ∈ WL := WL_2 116 (by decide +kernel) rfl
theorem wn_X3_kind : Cond.instanceMethod yX3_kind ∈ WL := WL_2 117 (by decide +kernel) rfl
theorem wl_X3_kind : Cond.selects RX3 yX3_kind yX3_kind ∈ WL := WL_2 118 (by decide +kernel) rfl
theorem wc_X3_kind : Cond.code yX3_kind cX3_kind 7 (Option.some Jvm.ClassFile.FieldType.int) ∈ WL := WL_2 119 (by decide +kernel) rfl
theorem wm_L_85 : Cond.methodLink RL 85 yX3_place ∈ WL := WL_2 120 (by decide +kernel) rfl
theorem wn_X3_place : Cond.instanceMethod yX3_place ∈ WL := WL_2 121 (by decide +kernel) rfl
theorem wl_X3_place : Cond.selects RX3 yX3_place yX3_place ∈ WL := WL_2 122 (by decide +kernel) rfl
theorem wc_X3_place : Cond.code yX3_place cX3_place 3 (Option.some Jvm.ClassFile.FieldType.int) ∈ WL := WL_2 123 (by decide +kernel) rfl
theorem wm_X3_155 : Cond.methodLink RX3 155 yX3_mostContentWith ∈ WL := WL_2 124 (by decide +kernel) rfl
theorem wn_X3_mostContentWith : Cond.instanceMethod yX3_mostContentWith ∈ WL := WL_2 126 (by decide +kernel) rfl
theorem wc_X3_mostContentWith : Cond.code yX3_mostContentWith cX3_mostContentWith 9 (Option.some Jvm.ClassFile.FieldType.int) ∈ WL := WL_2 127 (by decide +kernel) rfl
theorem wm_L_89 : Cond.methodLink RL 89 yX3_clash ∈ WL := WL_2 128 (by decide +kernel) rfl
theorem wn_X3_clash : Cond.instanceMethod yX3_clash ∈ WL := WL_2 129 (by decide +kernel) rfl
theorem wl_X3_clash : Cond.selects RX3 yX3_clash yX3_clash ∈ WL := WL_2 130 (by decide +kernel) rfl
theorem wc_X3_clash : Cond.code yX3_clash cX3_clash 4 (Option.some Jvm.ClassFile.FieldType.int) ∈ WL := WL_2 131 (by decide +kernel) rfl
theorem wm_X3_159 : Cond.methodLink RX3 159 yX3_gatherContentWith ∈ WL := WL_2 132 (by decide +kernel) rfl
theorem wn_X3_gatherContentWith : Cond.instanceMethod yX3_gatherContentWith ∈ WL := WL_2 134 (by decide +kernel) rfl
theorem wc_X3_gatherContentWith : Cond.code yX3_gatherContentWith cX3_gatherContentWith 5 (Option.none : Option Jvm.ClassFile.FieldType) ∈ WL := WL_2 135 (by decide +kernel) rfl
theorem wm_X3_162 : Cond.methodLink RX3 162 yX3_wantsClash ∈ WL := WL_2 136 (by decide +kernel) rfl
theorem wn_X3_wantsClash : Cond.instanceMethod yX3_wantsClash ∈ WL := WL_2 138 (by decide +kernel) rfl
theorem wc_X3_wantsClash : Cond.code yX3_wantsClash cX3_wantsClash 3 (Option.some Jvm.ClassFile.FieldType.boolean) ∈ WL := WL_2 139 (by decide +kernel) rfl
theorem wm_L_93 : Cond.methodLink RL 93 yX3_want ∈ WL := WL_2 140 (by decide +kernel) rfl
theorem wn_X3_want : Cond.instanceMethod yX3_want ∈ WL := WL_2 141 (by decide +kernel) rfl
theorem wl_X3_want : Cond.selects RX3 yX3_want yX3_want ∈ WL := WL_2 142 (by decide +kernel) rfl
theorem wc_X3_want : Cond.code yX3_want cX3_want 3 (Option.some Jvm.ClassFile.FieldType.int) ∈ WL := WL_2 143 (by decide +kernel) rfl
theorem wm_L_97 : Cond.methodLink RL 97 yX3_nose ∈ WL := WL_2 144 (by decide +kernel) rfl
theorem wn_X3_nose : Cond.instanceMethod yX3_nose ∈ WL := WL_2 145 (by decide +kernel) rfl
theorem wl_X3_nose : Cond.selects RX3 yX3_nose yX3_nose ∈ WL := WL_2 146 (by decide +kernel) rfl
theorem wc_X3_nose : Cond.code yX3_nose cX3_nose 4 (Option.some Jvm.ClassFile.FieldType.int) ∈ WL := WL_2 147 (by decide +kernel) rfl
theorem wm_L_101 : Cond.methodLink RL 101 yX3_feed ∈ WL := WL_2 148 (by decide +kernel) rfl
theorem wn_X3_feed : Cond.instanceMethod yX3_feed ∈ WL := WL_2 149 (by decide +kernel) rfl
theorem wl_X3_feed : Cond.selects RX3 yX3_feed yX3_feed ∈ WL := WL_2 150 (by decide +kernel) rfl
theorem wc_X3_feed : Cond.code yX3_feed cX3_feed 4 (Option.some Jvm.ClassFile.FieldType.int) ∈ WL := WL_2 151 (by decide +kernel) rfl
theorem wm_X3_168 : Cond.methodLink RX3 168 yX2_take ∈ WL := WL_2 152 (by decide +kernel) rfl
theorem wn_X2_take : Cond.instanceMethod yX2_take ∈ WL := WL_2 153 (by decide +kernel) rfl
theorem wl_X2_take : Cond.selects RX2 yX2_take yX2_take ∈ WL := WL_2 154 (by decide +kernel) rfl
theorem wc_X2_take : Cond.code yX2_take cX2_take 2 (Option.none : Option Jvm.ClassFile.FieldType) ∈ WL := WL_2 155 (by decide +kernel) rfl
theorem wm_L_105 : Cond.methodLink RL 105 yX3_wipe ∈ WL := WL_2 156 (by decide +kernel) rfl
theorem wn_X3_wipe : Cond.instanceMethod yX3_wipe ∈ WL := WL_2 157 (by decide +kernel) rfl
theorem wl_X3_wipe : Cond.selects RX3 yX3_wipe yX3_wipe ∈ WL := WL_2 158 (by decide +kernel) rfl
theorem wc_X3_wipe : Cond.code yX3_wipe cX3_wipe 2 (Option.some Jvm.ClassFile.FieldType.int) ∈ WL := WL_2 159 (by decide +kernel) rfl
theorem wm_L_109 : Cond.methodLink RL 109 yX3_night ∈ WL := WL_2 160 (by decide +kernel) rfl
theorem wn_X3_night : Cond.instanceMethod yX3_night ∈ WL := WL_2 161 (by decide +kernel) rfl
theorem wl_X3_night : Cond.selects RX3 yX3_night yX3_night ∈ WL := WL_2 162 (by decide +kernel) rfl
theorem wc_X3_night : Cond.code yX3_night cX3_night 2 (Option.some Jvm.ClassFile.FieldType.int) ∈ WL := WL_2 163 (by decide +kernel) rfl
theorem wm_X3_171 : Cond.methodLink RX3 171 yX2_tell ∈ WL := WL_2 164 (by decide +kernel) rfl
theorem wn_X2_tell : Cond.instanceMethod yX2_tell ∈ WL := WL_2 165 (by decide +kernel) rfl
theorem wl_X2_tell : Cond.selects RX2 yX2_tell yX2_tell ∈ WL := WL_2 166 (by decide +kernel) rfl
theorem wc_X2_tell : Cond.code yX2_tell cX2_tell 3 (Option.some Jvm.ClassFile.FieldType.int) ∈ WL := WL_2 167 (by decide +kernel) rfl
theorem wm_X2_34 : Cond.methodLink RX2 34 yX2_advance ∈ WL := WL_2 168 (by decide +kernel) rfl
theorem wn_X2_advance : Cond.instanceMethod yX2_advance ∈ WL := WL_2 170 (by decide +kernel) rfl
theorem wc_X2_advance : Cond.code yX2_advance cX2_advance 1 (Option.none : Option Jvm.ClassFile.FieldType) ∈ WL := WL_2 171 (by decide +kernel) rfl
theorem wm_X2_122 : Cond.methodLink RX2 122 yX2_byteAt ∈ WL := WL_2 172 (by decide +kernel) rfl
theorem wn_X2_byteAt : Cond.instanceMethod yX2_byteAt ∈ WL := WL_2 174 (by decide +kernel) rfl
theorem wc_X2_byteAt : Cond.code yX2_byteAt cX2_byteAt 2 (Option.some Jvm.ClassFile.FieldType.int) ∈ WL := WL_2 175 (by decide +kernel) rfl
theorem wm_X2_130 : Cond.methodLink RX2 130 yX2_tokenOf ∈ WL := WL_2 176 (by decide +kernel) rfl
theorem wt_X2_tokenOf : Cond.static yX2_tokenOf ∈ WL := WL_2 177 (by decide +kernel) rfl
theorem wc_X2_tokenOf : Cond.code yX2_tokenOf cX2_tokenOf 1 (Option.some Jvm.ClassFile.FieldType.int) ∈ WL := WL_2 178 (by decide +kernel) rfl
theorem wm_X2_133 : Cond.methodLink RX2 133 yJ9_min_7cf53 ∈ WL := WL_2 179 (by decide +kernel) rfl
theorem wm_X2_37 : Cond.methodLink RX2 37 yX2_isItem ∈ WL := WL_2 180 (by decide +kernel) rfl
theorem wn_X2_isItem : Cond.instanceMethod yX2_isItem ∈ WL := WL_2 182 (by decide +kernel) rfl
theorem wc_X2_isItem : Cond.code yX2_isItem cX2_isItem 3 (Option.some Jvm.ClassFile.FieldType.boolean) ∈ WL := WL_2 183 (by decide +kernel) rfl
theorem wm_X2_41 : Cond.methodLink RX2 41 yX2_kindNamed ∈ WL := WL_2 184 (by decide +kernel) rfl
theorem wn_X2_kindNamed : Cond.instanceMethod yX2_kindNamed ∈ WL := WL_2 186 (by decide +kernel) rfl
theorem wc_X2_kindNamed : Cond.code yX2_kindNamed cX2_kindNamed 1 (Option.some Jvm.ClassFile.FieldType.int) ∈ WL := WL_2 187 (by decide +kernel) rfl
theorem wm_X2_51 : Cond.methodLink RX2 51 yX2_isWord ∈ WL := WL_2 189 (by decide +kernel) rfl
theorem wn_X2_isWord : Cond.instanceMethod yX2_isWord ∈ WL := WL_2 191 (by decide +kernel) rfl
theorem wc_X2_isWord : Cond.code yX2_isWord cX2_isWord 3 (Option.some Jvm.ClassFile.FieldType.boolean) ∈ WL := WL_2 192 (by decide +kernel) rfl
theorem wm_X2_118 : Cond.methodLink RX2 118 yJ0_length_8abf5 ∈ WL := WL_2 193 (by decide +kernel) rfl
theorem wn_J0_length_8abf5 : Cond.instanceMethod yJ0_length_8abf5 ∈ WL := WL_2 194 (by decide +kernel) rfl
theorem wl_J0_length_8abf5 : Cond.selects RJ0 yJ0_length_8abf5 yJ0_length_8abf5 ∈ WL := WL_2 195 (by decide +kernel) rfl
theorem wc_J0_length_8abf5 : Cond.code yJ0_length_8abf5 cJ0_length_8abf5 1 (Option.some Jvm.ClassFile.FieldType.int) ∈ WL := WL_2 196 (by decide +kernel) rfl
theorem wm_J0_335 : Cond.methodLink RJ0 335 yJ0_coder_7d493 ∈ WL := WL_2 197 (by decide +kernel) rfl
theorem wn_J0_coder_7d493 : Cond.instanceMethod yJ0_coder_7d493 ∈ WL := WL_2 198 (by decide +kernel) rfl
theorem wl_J0_coder_7d493 : Cond.selects RJ0 yJ0_coder_7d493 yJ0_coder_7d493 ∈ WL := WL_2 199 (by decide +kernel) rfl
theorem wc_J0_coder_7d493 : Cond.code yJ0_coder_7d493 cJ0_coder_7d493 1 (Option.some Jvm.ClassFile.FieldType.byte) ∈ WL := WL_2 200 (by decide +kernel) rfl
theorem wf_J0_38 : Cond.fieldLink RJ0 38 "java/lang/String" "COMPACT_STRINGS" "Z" ∈ WL := WL_2 201 (by decide +kernel) rfl
theorem wm_X2_126 : Cond.methodLink RX2 126 yJ0_charAt_5068e ∈ WL := WL_2 203 (by decide +kernel) rfl
theorem wn_J0_charAt_5068e : Cond.instanceMethod yJ0_charAt_5068e ∈ WL := WL_2 204 (by decide +kernel) rfl
theorem wl_J0_charAt_5068e : Cond.selects RJ0 yJ0_charAt_5068e yJ0_charAt_5068e ∈ WL := WL_2 205 (by decide +kernel) rfl
theorem wc_J0_charAt_5068e : Cond.code yJ0_charAt_5068e cJ0_charAt_5068e 2 (Option.some Jvm.ClassFile.FieldType.char) ∈ WL := WL_2 206 (by decide +kernel) rfl
theorem wm_J0_492 : Cond.methodLink RJ0 492 yJ0_isLatin1_aae02 ∈ WL := WL_2 207 (by decide +kernel) rfl
theorem wn_J0_isLatin1_aae02 : Cond.instanceMethod yJ0_isLatin1_aae02 ∈ WL := WL_2 208 (by decide +kernel) rfl
theorem wl_J0_isLatin1_aae02 : Cond.selects RJ0 yJ0_isLatin1_aae02 yJ0_isLatin1_aae02 ∈ WL := WL_2 209 (by decide +kernel) rfl
theorem wc_J0_isLatin1_aae02 : Cond.code yJ0_isLatin1_aae02 cJ0_isLatin1_aae02 1 (Option.some Jvm.ClassFile.FieldType.boolean) ∈ WL := WL_2 210 (by decide +kernel) rfl
theorem wm_J0_495 : Cond.methodLink RJ0 495 yJ1_charAt_3b067 ∈ WL := WL_2 211 (by decide +kernel) rfl
theorem wt_J1_charAt_3b067 : Cond.static yJ1_charAt_3b067 ∈ WL := WL_2 212 (by decide +kernel) rfl
theorem wc_J1_charAt_3b067 : Cond.code yJ1_charAt_3b067 cJ1_charAt_3b067 2 (Option.some Jvm.ClassFile.FieldType.char) ∈ WL := WL_2 213 (by decide +kernel) rfl
theorem wm_J1_9 : Cond.methodLink RJ1 9 yJ0_checkIndex_df160 ∈ WL := WL_2 214 (by decide +kernel) rfl
theorem wt_J0_checkIndex_df160 : Cond.static yJ0_checkIndex_df160 ∈ WL := WL_2 215 (by decide +kernel) rfl
theorem wc_J0_checkIndex_df160 : Cond.code yJ0_checkIndex_df160 cJ0_checkIndex_df160 2 (Option.none : Option Jvm.ClassFile.FieldType) ∈ WL := WL_2 216 (by decide +kernel) rfl
theorem wf_J0_1053 : Cond.fieldLink RJ0 1053 "jdk/internal/util/Preconditions" "SIOOBE_FORMATTER" "Ljava/util/function/BiFunction;" ∈ WL := WL_2 217 (by decide +kernel) rfl
theorem wm_J0_1059 : Cond.methodLink RJ0 1059 yJ3_checkIndex_8e157 ∈ WL := WL_2 219 (by decide +kernel) rfl
theorem wt_J3_checkIndex_8e157 : Cond.static yJ3_checkIndex_8e157 ∈ WL := WL_2 220 (by decide +kernel) rfl
theorem wc_J3_checkIndex_8e157 : Cond.code yJ3_checkIndex_8e157 cJ3_checkIndex_8e157 3 (Option.some Jvm.ClassFile.FieldType.int) ∈ WL := WL_2 221 (by decide +kernel) rfl
theorem wm_J0_498 : Cond.methodLink RJ0 498 yJ2_charAt_3b067 ∈ WL := WL_2 222 (by decide +kernel) rfl
theorem wt_J2_charAt_3b067 : Cond.static yJ2_charAt_3b067 ∈ WL := WL_2 223 (by decide +kernel) rfl
theorem wc_J2_charAt_3b067 : Cond.code yJ2_charAt_3b067 cJ2_charAt_3b067 2 (Option.some Jvm.ClassFile.FieldType.char) ∈ WL := WL_2 224 (by decide +kernel) rfl
theorem wm_J2_67 : Cond.methodLink RJ2 67 yJ2_checkIndex_2214a ∈ WL := WL_2 225 (by decide +kernel) rfl
theorem wt_J2_checkIndex_2214a : Cond.static yJ2_checkIndex_2214a ∈ WL := WL_2 226 (by decide +kernel) rfl
theorem wc_J2_checkIndex_2214a : Cond.code yJ2_checkIndex_2214a cJ2_checkIndex_2214a 2 (Option.none : Option Jvm.ClassFile.FieldType) ∈ WL := WL_2 227 (by decide +kernel) rfl
theorem wm_J2_48 : Cond.methodLink RJ2 48 yJ2_length_9d52b ∈ WL := WL_2 228 (by decide +kernel) rfl
theorem wt_J2_length_9d52b : Cond.static yJ2_length_9d52b ∈ WL := WL_2 229 (by decide +kernel) rfl
theorem wc_J2_length_9d52b : Cond.code yJ2_length_9d52b cJ2_length_9d52b 1 (Option.some Jvm.ClassFile.FieldType.int) ∈ WL := WL_2 230 (by decide +kernel) rfl
theorem wm_J2_414 : Cond.methodLink RJ2 414 yJ0_checkIndex_df160 ∈ WL := WL_2 231 (by decide +kernel) rfl
theorem wm_J2_71 : Cond.methodLink RJ2 71 yJ2_getChar_3b067 ∈ WL := WL_2 232 (by decide +kernel) rfl
theorem wt_J2_getChar_3b067 : Cond.static yJ2_getChar_3b067 ∈ WL := WL_2 233 (by decide +kernel) rfl
theorem wc_J2_getChar_3b067 : Cond.code yJ2_getChar_3b067 cJ2_getChar_3b067 2 (Option.some Jvm.ClassFile.FieldType.char) ∈ WL := WL_2 234 (by decide +kernel) rfl
theorem wf_J2_44 : Cond.fieldLink RJ2 44 "java/lang/StringUTF16" "$assertionsDisabled" "Z" ∈ WL := WL_2 235 (by decide +kernel) rfl
theorem wf_J2_59 : Cond.fieldLink RJ2 59 "java/lang/StringUTF16" "HI_BYTE_SHIFT" "I" ∈ WL := WL_2 237 (by decide +kernel) rfl
theorem wf_J2_63 : Cond.fieldLink RJ2 63 "java/lang/StringUTF16" "LO_BYTE_SHIFT" "I" ∈ WL := WL_2 239 (by decide +kernel) rfl
theorem wm_X2_45 : Cond.methodLink RX2 45 yX2_isFigure ∈ WL := WL_3 6 (by decide +kernel) rfl
theorem wn_X2_isFigure : Cond.instanceMethod yX2_isFigure ∈ WL := WL_3 8 (by decide +kernel) rfl
theorem wc_X2_isFigure : Cond.code yX2_isFigure cX2_isFigure 5 (Option.some Jvm.ClassFile.FieldType.boolean) ∈ WL := WL_3 9 (by decide +kernel) rfl
theorem wm_X2_76 : Cond.methodLink RX2 76 yX0_isFull ∈ WL := WL_3 10 (by decide +kernel) rfl
theorem wm_X2_67 : Cond.methodLink RX2 67 yX2_takesNumber ∈ WL := WL_3 11 (by decide +kernel) rfl
theorem wn_X2_takesNumber : Cond.instanceMethod yX2_takesNumber ∈ WL := WL_3 13 (by decide +kernel) rfl
theorem wc_X2_takesNumber : Cond.code yX2_takesNumber cX2_takesNumber 2 (Option.some Jvm.ClassFile.FieldType.boolean) ∈ WL := WL_3 14 (by decide +kernel) rfl
theorem wm_X2_80 : Cond.methodLink RX2 80 yX0_hang ∈ WL := WL_3 15 (by decide +kernel) rfl
theorem wm_X2_86 : Cond.methodLink RX2 86 yX0_put ∈ WL := WL_3 17 (by decide +kernel) rfl
theorem wm_X2_55 : Cond.methodLink RX2 55 yX2_isWanting ∈ WL := WL_3 20 (by decide +kernel) rfl
theorem wn_X2_isWanting : Cond.instanceMethod yX2_isWanting ∈ WL := WL_3 22 (by decide +kernel) rfl
theorem wc_X2_isWanting : Cond.code yX2_isWanting cX2_isWanting 4 (Option.some Jvm.ClassFile.FieldType.boolean) ∈ WL := WL_3 23 (by decide +kernel) rfl
theorem wm_X2_95 : Cond.methodLink RX2 95 yX2_wantNamed ∈ WL := WL_3 24 (by decide +kernel) rfl
theorem wn_X2_wantNamed : Cond.instanceMethod yX2_wantNamed ∈ WL := WL_3 26 (by decide +kernel) rfl
theorem wc_X2_wantNamed : Cond.code yX2_wantNamed cX2_wantNamed 1 (Option.some Jvm.ClassFile.FieldType.int) ∈ WL := WL_3 27 (by decide +kernel) rfl
theorem wm_X2_60 : Cond.methodLink RX2 60 yX2_isLetting ∈ WL := WL_3 33 (by decide +kernel) rfl
theorem wn_X2_isLetting : Cond.instanceMethod yX2_isLetting ∈ WL := WL_3 35 (by decide +kernel) rfl
theorem wc_X2_isLetting : Cond.code yX2_isLetting cX2_isLetting 3 (Option.some Jvm.ClassFile.FieldType.boolean) ∈ WL := WL_3 36 (by decide +kernel) rfl
theorem wa_byte : Cond.arrayClass .byte ∈ WL := WL_3 39 (by decide +kernel) rfl
theorem wm_L_113 : Cond.methodLink RL 113 yX3_sheet ∈ WL := WL_3 40 (by decide +kernel) rfl
theorem wn_X3_sheet : Cond.instanceMethod yX3_sheet ∈ WL := WL_3 41 (by decide +kernel) rfl
theorem wl_X3_sheet : Cond.selects RX3 yX3_sheet yX3_sheet ∈ WL := WL_3 42 (by decide +kernel) rfl
theorem wc_X3_sheet : Cond.code yX3_sheet cX3_sheet 5 (Option.some Jvm.ClassFile.FieldType.int) ∈ WL := WL_3 43 (by decide +kernel) rfl
theorem wm_X3_175 : Cond.methodLink RX3 175 yX3_sheetAt ∈ WL := WL_3 44 (by decide +kernel) rfl
theorem wn_X3_sheetAt : Cond.instanceMethod yX3_sheetAt ∈ WL := WL_3 46 (by decide +kernel) rfl
theorem wc_X3_sheetAt : Cond.code yX3_sheetAt cX3_sheetAt 2 (Option.some (Jvm.ClassFile.FieldType.object "VarnishNight$Sheet")) ∈ WL := WL_3 47 (by decide +kernel) rfl
theorem wq_X3_179 : Cond.constant RX3 179 (-1000000007 : Int32) ∈ WL := WL_3 48 (by decide +kernel) rfl
theorem wm_X3_180 : Cond.methodLink RX3 180 yX1_lay ∈ WL := WL_3 49 (by decide +kernel) rfl
theorem wn_X1_lay : Cond.instanceMethod yX1_lay ∈ WL := WL_3 50 (by decide +kernel) rfl
theorem wl_X1_lay : Cond.selects RX1 yX1_lay yX1_lay ∈ WL := WL_3 51 (by decide +kernel) rfl
theorem wc_X1_lay : Cond.code yX1_lay cX1_lay 4 (Option.none : Option Jvm.ClassFile.FieldType) ∈ WL := WL_3 52 (by decide +kernel) rfl
theorem wm_L_119 : Cond.methodLink RL 119 yX3_write ∈ WL := WL_3 53 (by decide +kernel) rfl
theorem wn_X3_write : Cond.instanceMethod yX3_write ∈ WL := WL_3 54 (by decide +kernel) rfl
theorem wl_X3_write : Cond.selects RX3 yX3_write yX3_write ∈ WL := WL_3 55 (by decide +kernel) rfl
theorem wc_X3_write : Cond.code yX3_write cX3_write 8 (Option.some Jvm.ClassFile.FieldType.long) ∈ WL := WL_3 56 (by decide +kernel) rfl
theorem wm_X3_185 : Cond.methodLink RX3 185 yX1_isMissing ∈ WL := WL_3 57 (by decide +kernel) rfl
theorem wn_X1_isMissing : Cond.instanceMethod yX1_isMissing ∈ WL := WL_3 58 (by decide +kernel) rfl
theorem wl_X1_isMissing : Cond.selects RX1 yX1_isMissing yX1_isMissing ∈ WL := WL_3 59 (by decide +kernel) rfl
theorem wc_X1_isMissing : Cond.code yX1_isMissing cX1_isMissing 1 (Option.some Jvm.ClassFile.FieldType.boolean) ∈ WL := WL_3 60 (by decide +kernel) rfl
theorem wq_X3_188 : Cond.constant RX3 188 (-1000000006 : Int32) ∈ WL := WL_3 61 (by decide +kernel) rfl
theorem wm_X3_189 : Cond.methodLink RX3 189 yX1_get ∈ WL := WL_3 62 (by decide +kernel) rfl
theorem wn_X1_get : Cond.instanceMethod yX1_get ∈ WL := WL_3 63 (by decide +kernel) rfl
theorem wl_X1_get : Cond.selects RX1 yX1_get yX1_get ∈ WL := WL_3 64 (by decide +kernel) rfl
theorem wc_X1_get : Cond.code yX1_get cX1_get 2 (Option.some Jvm.ClassFile.FieldType.long) ∈ WL := WL_3 65 (by decide +kernel) rfl
theorem wm_X3_192 : Cond.methodLink RX3 192 yX1_put ∈ WL := WL_3 66 (by decide +kernel) rfl
theorem wn_X1_put : Cond.instanceMethod yX1_put ∈ WL := WL_3 67 (by decide +kernel) rfl
theorem wl_X1_put : Cond.selects RX1 yX1_put yX1_put ∈ WL := WL_3 68 (by decide +kernel) rfl
theorem wc_X1_put : Cond.code yX1_put cX1_put 4 (Option.none : Option Jvm.ClassFile.FieldType) ∈ WL := WL_3 69 (by decide +kernel) rfl
theorem wm_X1_22 : Cond.methodLink RX1 22 yX1_lowest ∈ WL := WL_3 70 (by decide +kernel) rfl
theorem wn_X1_lowest : Cond.instanceMethod yX1_lowest ∈ WL := WL_3 72 (by decide +kernel) rfl
theorem wc_X1_lowest : Cond.code yX1_lowest cX1_lowest 3 (Option.some Jvm.ClassFile.FieldType.long) ∈ WL := WL_3 73 (by decide +kernel) rfl
theorem wm_L_124 : Cond.methodLink RL 124 yX3_copy ∈ WL := WL_3 74 (by decide +kernel) rfl
theorem wn_X3_copy : Cond.instanceMethod yX3_copy ∈ WL := WL_3 75 (by decide +kernel) rfl
theorem wl_X3_copy : Cond.selects RX3 yX3_copy yX3_copy ∈ WL := WL_3 76 (by decide +kernel) rfl
theorem wc_X3_copy : Cond.code yX3_copy cX3_copy 8 (Option.some Jvm.ClassFile.FieldType.int) ∈ WL := WL_3 77 (by decide +kernel) rfl
theorem wm_X3_198 : Cond.methodLink RX3 198 yX1_lacks ∈ WL := WL_3 78 (by decide +kernel) rfl
theorem wn_X1_lacks : Cond.instanceMethod yX1_lacks ∈ WL := WL_3 79 (by decide +kernel) rfl
theorem wl_X1_lacks : Cond.selects RX1 yX1_lacks yX1_lacks ∈ WL := WL_3 80 (by decide +kernel) rfl
theorem wc_X1_lacks : Cond.code yX1_lacks cX1_lacks 3 (Option.some Jvm.ClassFile.FieldType.boolean) ∈ WL := WL_3 81 (by decide +kernel) rfl
theorem wm_X3_204 : Cond.methodLink RX3 204 arraycopyName ∈ WL := WL_3 82 (by decide +kernel) rfl
theorem wm_L_129 : Cond.methodLink RL 129 yX3_lays ∈ WL := WL_3 83 (by decide +kernel) rfl
theorem wn_X3_lays : Cond.instanceMethod yX3_lays ∈ WL := WL_3 84 (by decide +kernel) rfl
theorem wl_X3_lays : Cond.selects RX3 yX3_lays yX3_lays ∈ WL := WL_3 85 (by decide +kernel) rfl
theorem wc_X3_lays : Cond.code yX3_lays cX3_lays 7 (Option.some Jvm.ClassFile.FieldType.int) ∈ WL := WL_3 86 (by decide +kernel) rfl
theorem wq_X3_210 : Cond.constantLong RX3 210 (99 : Int64) ∈ WL := WL_3 87 (by decide +kernel) rfl
theorem wm_L_133 : Cond.methodLink RL 133 yX3_book ∈ WL := WL_3 88 (by decide +kernel) rfl
theorem wn_X3_book : Cond.instanceMethod yX3_book ∈ WL := WL_3 89 (by decide +kernel) rfl
theorem wl_X3_book : Cond.selects RX3 yX3_book yX3_book ∈ WL := WL_3 90 (by decide +kernel) rfl
theorem wc_X3_book : Cond.code yX3_book cX3_book 5 (Option.some Jvm.ClassFile.FieldType.int) ∈ WL := WL_3 91 (by decide +kernel) rfl
theorem wm_X3_212 : Cond.methodLink RX3 212 yX0_look ∈ WL := WL_3 92 (by decide +kernel) rfl
theorem wn_X0_look : Cond.instanceMethod yX0_look ∈ WL := WL_3 93 (by decide +kernel) rfl
theorem wl_X0_look : Cond.selects RX0 yX0_look yX0_look ∈ WL := WL_3 94 (by decide +kernel) rfl
theorem wc_X0_look : Cond.code yX0_look cX0_look 2 (Option.some Jvm.ClassFile.FieldType.int) ∈ WL := WL_3 95 (by decide +kernel) rfl
theorem wm_L_137 : Cond.methodLink RL 137 yX3_read ∈ WL := WL_3 96 (by decide +kernel) rfl
theorem wn_X3_read : Cond.instanceMethod yX3_read ∈ WL := WL_3 97 (by decide +kernel) rfl
theorem wl_X3_read : Cond.selects RX3 yX3_read yX3_read ∈ WL := WL_3 98 (by decide +kernel) rfl
theorem wc_X3_read : Cond.code yX3_read cX3_read 7 (Option.some Jvm.ClassFile.FieldType.int) ∈ WL := WL_3 99 (by decide +kernel) rfl
theorem wm_X3_215 : Cond.methodLink RX3 215 yX3_trialGoesAs ∈ WL := WL_3 100 (by decide +kernel) rfl
theorem wn_X3_trialGoesAs : Cond.instanceMethod yX3_trialGoesAs ∈ WL := WL_3 102 (by decide +kernel) rfl
theorem wc_X3_trialGoesAs : Cond.code yX3_trialGoesAs cX3_trialGoesAs 4 (Option.some Jvm.ClassFile.FieldType.boolean) ∈ WL := WL_3 103 (by decide +kernel) rfl
theorem wm_L_141 : Cond.methodLink RL 141 yX3_image ∈ WL := WL_3 104 (by decide +kernel) rfl
theorem wn_X3_image : Cond.instanceMethod yX3_image ∈ WL := WL_3 105 (by decide +kernel) rfl
theorem wl_X3_image : Cond.selects RX3 yX3_image yX3_image ∈ WL := WL_3 106 (by decide +kernel) rfl
theorem wc_X3_image : Cond.code yX3_image cX3_image 1 (Option.some Jvm.ClassFile.FieldType.int) ∈ WL := WL_3 107 (by decide +kernel) rfl
theorem wm_L_145 : Cond.methodLink RL 145 yX3_undo ∈ WL := WL_3 108 (by decide +kernel) rfl
theorem wn_X3_undo : Cond.instanceMethod yX3_undo ∈ WL := WL_3 109 (by decide +kernel) rfl
theorem wl_X3_undo : Cond.selects RX3 yX3_undo yX3_undo ∈ WL := WL_3 110 (by decide +kernel) rfl
theorem wc_X3_undo : Cond.code yX3_undo cX3_undo 1 (Option.some Jvm.ClassFile.FieldType.int) ∈ WL := WL_3 111 (by decide +kernel) rfl
theorem wm_L_149 : Cond.methodLink RL 149 yX3_tear ∈ WL := WL_3 112 (by decide +kernel) rfl
theorem wn_X3_tear : Cond.instanceMethod yX3_tear ∈ WL := WL_3 113 (by decide +kernel) rfl
theorem wl_X3_tear : Cond.selects RX3 yX3_tear yX3_tear ∈ WL := WL_3 114 (by decide +kernel) rfl
theorem wc_X3_tear : Cond.code yX3_tear cX3_tear 2 (Option.some Jvm.ClassFile.FieldType.int) ∈ WL := WL_3 115 (by decide +kernel) rfl
theorem wm_L_153 : Cond.methodLink RL 153 yX3_count ∈ WL := WL_3 116 (by decide +kernel) rfl
theorem wn_X3_count : Cond.instanceMethod yX3_count ∈ WL := WL_3 117 (by decide +kernel) rfl
theorem wl_X3_count : Cond.selects RX3 yX3_count yX3_count ∈ WL := WL_3 118 (by decide +kernel) rfl
theorem wc_X3_count : Cond.code yX3_count cX3_count 2 (Option.some Jvm.ClassFile.FieldType.int) ∈ WL := WL_3 119 (by decide +kernel) rfl
theorem wm_L_157 : Cond.methodLink RL 157 yX3_status ∈ WL := WL_3 120 (by decide +kernel) rfl
theorem wn_X3_status : Cond.instanceMethod yX3_status ∈ WL := WL_3 121 (by decide +kernel) rfl
theorem wl_X3_status : Cond.selects RX3 yX3_status yX3_status ∈ WL := WL_3 122 (by decide +kernel) rfl
theorem wc_X3_status : Cond.code yX3_status cX3_status 4 (Option.some Jvm.ClassFile.FieldType.int) ∈ WL := WL_3 123 (by decide +kernel) rfl
theorem wk_L_10 : Cond.classLink RL 10 RX4 ∈ WL := WL_3 124 (by decide +kernel) rfl
theorem wj_X4 : Cond.instantiable RX4 17 ∈ WL := WL_3 125 (by decide +kernel) rfl
theorem wm_L_12 : Cond.methodLink RL 12 yX4_init ∈ WL := WL_3 126 (by decide +kernel) rfl
theorem wn_X4_init : Cond.instanceMethod yX4_init ∈ WL := WL_3 127 (by decide +kernel) rfl
theorem wc_X4_init : Cond.code yX4_init cX4_init 1 (Option.none : Option Jvm.ClassFile.FieldType) ∈ WL := WL_3 128 (by decide +kernel) rfl
theorem wm_X4_1 : Cond.methodLink RX4 1 objectInit ∈ WL := WL_3 129 (by decide +kernel) rfl
theorem wf_X4_7 : Cond.fieldLink RX4 7 "VarnishNightModel" "s" "[I" ∈ WL := WL_3 130 (by decide +kernel) rfl
theorem wf_X4_13 : Cond.fieldLink RX4 13 "VarnishNightModel" "keptS" "[I" ∈ WL := WL_3 131 (by decide +kernel) rfl
theorem wf_X4_16 : Cond.fieldLink RX4 16 "VarnishNightModel" "other" "[I" ∈ WL := WL_3 132 (by decide +kernel) rfl
theorem wf_X4_19 : Cond.fieldLink RX4 19 "VarnishNightModel" "aside" "[I" ∈ WL := WL_3 133 (by decide +kernel) rfl
theorem wf_X4_22 : Cond.fieldLink RX4 22 "VarnishNightModel" "statuses" "[I" ∈ WL := WL_3 134 (by decide +kernel) rfl
theorem wf_X4_337 : Cond.fieldLink RX4 337 "VarnishNightModel" "isKept" "Z" ∈ WL := WL_3 135 (by decide +kernel) rfl
theorem wf_X4_25 : Cond.fieldLink RX4 25 "VarnishNightModel" "contentAt" "[I" ∈ WL := WL_3 136 (by decide +kernel) rfl
theorem wf_X4_28 : Cond.fieldLink RX4 28 "VarnishNightModel" "tape" "[I" ∈ WL := WL_3 137 (by decide +kernel) rfl
theorem wf_X4_207 : Cond.fieldLink RX4 207 "VarnishNightModel" "taped" "I" ∈ WL := WL_3 138 (by decide +kernel) rfl
theorem wf_X4_222 : Cond.fieldLink RX4 222 "VarnishNightModel" "from" "I" ∈ WL := WL_3 139 (by decide +kernel) rfl
theorem wf_X4_219 : Cond.fieldLink RX4 219 "VarnishNightModel" "to" "I" ∈ WL := WL_3 140 (by decide +kernel) rfl
theorem wf_X4_245 : Cond.fieldLink RX4 245 "VarnishNightModel" "value" "I" ∈ WL := WL_3 141 (by decide +kernel) rfl
theorem wf_X4_234 : Cond.fieldLink RX4 234 "VarnishNightModel" "isWrong" "Z" ∈ WL := WL_3 142 (by decide +kernel) rfl
theorem wf_X4_31 : Cond.fieldLink RX4 31 "VarnishNightModel" "bitsOf" "[I" ∈ WL := WL_3 143 (by decide +kernel) rfl
theorem wf_X4_34 : Cond.fieldLink RX4 34 "VarnishNightModel" "sizeOf" "[I" ∈ WL := WL_3 144 (by decide +kernel) rfl
theorem wf_X4_37 : Cond.fieldLink RX4 37 "VarnishNightModel" "numbers" "[J" ∈ WL := WL_3 145 (by decide +kernel) rfl
theorem wf_X4_41 : Cond.fieldLink RX4 41 "VarnishNightModel" "moved" "[J" ∈ WL := WL_3 146 (by decide +kernel) rfl
theorem wy_X4_s : Cond.laysFinal "VarnishNightModel" "VarnishNightModel" "s" "[I" ∈ WL := WL_3 147 (by decide +kernel) rfl
theorem wy_X4_keptS : Cond.laysFinal "VarnishNightModel" "VarnishNightModel" "keptS" "[I" ∈ WL := WL_3 149 (by decide +kernel) rfl
theorem wy_X4_other : Cond.laysFinal "VarnishNightModel" "VarnishNightModel" "other" "[I" ∈ WL := WL_3 151 (by decide +kernel) rfl
theorem wy_X4_aside : Cond.laysFinal "VarnishNightModel" "VarnishNightModel" "aside" "[I" ∈ WL := WL_3 153 (by decide +kernel) rfl
theorem wy_X4_statuses : Cond.laysFinal "VarnishNightModel" "VarnishNightModel" "statuses" "[I" ∈ WL := WL_3 155 (by decide +kernel) rfl
theorem wy_X4_isKept : Cond.lays "VarnishNightModel" "VarnishNightModel" "isKept" "Z" ∈ WL := WL_3 157 (by decide +kernel) rfl
theorem wy_X4_contentAt : Cond.laysFinal "VarnishNightModel" "VarnishNightModel" "contentAt" "[I" ∈ WL := WL_3 159 (by decide +kernel) rfl
theorem wy_X4_tape : Cond.laysFinal "VarnishNightModel" "VarnishNightModel" "tape" "[I" ∈ WL := WL_3 161 (by decide +kernel) rfl
theorem wy_X4_taped : Cond.lays "VarnishNightModel" "VarnishNightModel" "taped" "I" ∈ WL := WL_3 163 (by decide +kernel) rfl
theorem wy_X4_from : Cond.lays "VarnishNightModel" "VarnishNightModel" "from" "I" ∈ WL := WL_3 165 (by decide +kernel) rfl
theorem wy_X4_to : Cond.lays "VarnishNightModel" "VarnishNightModel" "to" "I" ∈ WL := WL_3 167 (by decide +kernel) rfl
theorem wy_X4_value : Cond.lays "VarnishNightModel" "VarnishNightModel" "value" "I" ∈ WL := WL_3 169 (by decide +kernel) rfl
theorem wy_X4_isWrong : Cond.lays "VarnishNightModel" "VarnishNightModel" "isWrong" "Z" ∈ WL := WL_3 171 (by decide +kernel) rfl
theorem wy_X4_bitsOf : Cond.laysFinal "VarnishNightModel" "VarnishNightModel" "bitsOf" "[I" ∈ WL := WL_3 173 (by decide +kernel) rfl
theorem wy_X4_sizeOf : Cond.laysFinal "VarnishNightModel" "VarnishNightModel" "sizeOf" "[I" ∈ WL := WL_3 175 (by decide +kernel) rfl
theorem wy_X4_numbers : Cond.laysFinal "VarnishNightModel" "VarnishNightModel" "numbers" "[J" ∈ WL := WL_3 177 (by decide +kernel) rfl
theorem wy_X4_moved : Cond.laysFinal "VarnishNightModel" "VarnishNightModel" "moved" "[J" ∈ WL := WL_3 179 (by decide +kernel) rfl
theorem wm_L_17 : Cond.methodLink RL 17 yX4_tacky ∈ WL := WL_3 182 (by decide +kernel) rfl
theorem wn_X4_tacky : Cond.instanceMethod yX4_tacky ∈ WL := WL_3 183 (by decide +kernel) rfl
theorem wl_X4_tacky : Cond.selects RX4 yX4_tacky yX4_tacky ∈ WL := WL_3 184 (by decide +kernel) rfl
theorem wc_X4_tacky : Cond.code yX4_tacky cX4_tacky 2 (Option.some Jvm.ClassFile.FieldType.int) ∈ WL := WL_3 185 (by decide +kernel) rfl
theorem wq_X4_58 : Cond.constantLong RX4 58 (8 : Int64) ∈ WL := WL_3 186 (by decide +kernel) rfl
theorem wm_X4_49 : Cond.methodLink RX4 49 yX4_in ∈ WL := WL_3 187 (by decide +kernel) rfl
theorem wt_X4_in : Cond.static yX4_in ∈ WL := WL_3 188 (by decide +kernel) rfl
theorem wc_X4_in : Cond.code yX4_in cX4_in 6 (Option.some Jvm.ClassFile.FieldType.boolean) ∈ WL := WL_3 189 (by decide +kernel) rfl
theorem wm_X4_60 : Cond.methodLink RX4 60 yX4_becomes ∈ WL := WL_3 190 (by decide +kernel) rfl
theorem wn_X4_becomes : Cond.instanceMethod yX4_becomes ∈ WL := WL_3 192 (by decide +kernel) rfl
theorem wc_X4_becomes : Cond.code yX4_becomes cX4_becomes 4 (Option.some Jvm.ClassFile.FieldType.int) ∈ WL := WL_3 193 (by decide +kernel) rfl
theorem wq_X4_44 : Cond.constant RX4 44 (-1000000001 : Int32) ∈ WL := WL_3 194 (by decide +kernel) rfl
theorem wm_X4_63 : Cond.methodLink RX4 63 yX4_finds ∈ WL := WL_3 195 (by decide +kernel) rfl
theorem wn_X4_finds : Cond.instanceMethod yX4_finds ∈ WL := WL_3 197 (by decide +kernel) rfl
theorem wc_X4_finds : Cond.code yX4_finds cX4_finds 2 (Option.some Jvm.ClassFile.FieldType.int) ∈ WL := WL_3 198 (by decide +kernel) rfl
theorem wm_L_21 : Cond.methodLink RL 21 yX4_now ∈ WL := WL_3 199 (by decide +kernel) rfl
theorem wn_X4_now : Cond.instanceMethod yX4_now ∈ WL := WL_3 200 (by decide +kernel) rfl
theorem wl_X4_now : Cond.selects RX4 yX4_now yX4_now ∈ WL := WL_3 201 (by decide +kernel) rfl
theorem wc_X4_now : Cond.code yX4_now cX4_now 2 (Option.some Jvm.ClassFile.FieldType.int) ∈ WL := WL_3 202 (by decide +kernel) rfl
theorem wm_X4_67 : Cond.methodLink RX4 67 yX4_ofNight ∈ WL := WL_3 203 (by decide +kernel) rfl
theorem wn_X4_ofNight : Cond.instanceMethod yX4_ofNight ∈ WL := WL_3 205 (by decide +kernel) rfl
theorem wc_X4_ofNight : Cond.code yX4_ofNight cX4_ofNight 1 (Option.some Jvm.ClassFile.FieldType.int) ∈ WL := WL_3 206 (by decide +kernel) rfl
theorem wm_X4_85 : Cond.methodLink RX4 85 yX4_isTacky ∈ WL := WL_3 207 (by decide +kernel) rfl
theorem wn_X4_isTacky : Cond.instanceMethod yX4_isTacky ∈ WL := WL_3 209 (by decide +kernel) rfl
theorem wc_X4_isTacky : Cond.code yX4_isTacky cX4_isTacky 1 (Option.some Jvm.ClassFile.FieldType.boolean) ∈ WL := WL_3 210 (by decide +kernel) rfl
theorem wm_X4_101 : Cond.methodLink RX4 101 yX4_content ∈ WL := WL_3 211 (by decide +kernel) rfl
theorem wn_X4_content : Cond.instanceMethod yX4_content ∈ WL := WL_3 213 (by decide +kernel) rfl
theorem wc_X4_content : Cond.code yX4_content cX4_content 3 (Option.some Jvm.ClassFile.FieldType.int) ∈ WL := WL_3 214 (by decide +kernel) rfl
theorem wm_X4_82 : Cond.methodLink RX4 82 yX4_isContent ∈ WL := WL_3 215 (by decide +kernel) rfl
theorem wn_X4_isContent : Cond.instanceMethod yX4_isContent ∈ WL := WL_3 217 (by decide +kernel) rfl
theorem wc_X4_isContent : Cond.code yX4_isContent cX4_isContent 2 (Option.some Jvm.ClassFile.FieldType.boolean) ∈ WL := WL_3 218 (by decide +kernel) rfl
theorem wm_X4_55 : Cond.methodLink RX4 55 yX4_its ∈ WL := WL_3 219 (by decide +kernel) rfl
theorem wn_X4_its : Cond.instanceMethod yX4_its ∈ WL := WL_3 221 (by decide +kernel) rfl
theorem wc_X4_its : Cond.code yX4_its cX4_its 3 (Option.some Jvm.ClassFile.FieldType.int) ∈ WL := WL_3 222 (by decide +kernel) rfl
theorem wm_X4_45 : Cond.methodLink RX4 45 yX4_spot ∈ WL := WL_3 223 (by decide +kernel) rfl
theorem wt_X4_spot : Cond.static yX4_spot ∈ WL := WL_3 224 (by decide +kernel) rfl
theorem wc_X4_spot : Cond.code yX4_spot cX4_spot 2 (Option.some Jvm.ClassFile.FieldType.int) ∈ WL := WL_3 225 (by decide +kernel) rfl
theorem wm_X4_75 : Cond.methodLink RX4 75 yX4_isWithWhom ∈ WL := WL_3 226 (by decide +kernel) rfl
theorem wn_X4_isWithWhom : Cond.instanceMethod yX4_isWithWhom ∈ WL := WL_3 228 (by decide +kernel) rfl
theorem wc_X4_isWithWhom : Cond.code yX4_isWithWhom cX4_isWithWhom 3 (Option.some Jvm.ClassFile.FieldType.boolean) ∈ WL := WL_3 229 (by decide +kernel) rfl
theorem wm_X4_71 : Cond.methodLink RX4 71 yX4_isBeside ∈ WL := WL_3 230 (by decide +kernel) rfl
theorem wn_X4_isBeside : Cond.instanceMethod yX4_isBeside ∈ WL := WL_3 232 (by decide +kernel) rfl
theorem wc_X4_isBeside : Cond.code yX4_isBeside cX4_isBeside 3 (Option.some Jvm.ClassFile.FieldType.boolean) ∈ WL := WL_3 233 (by decide +kernel) rfl
theorem wm_X4_79 : Cond.methodLink RX4 79 yX4_apart ∈ WL := WL_3 234 (by decide +kernel) rfl
theorem wn_X4_apart : Cond.instanceMethod yX4_apart ∈ WL := WL_3 236 (by decide +kernel) rfl
theorem wc_X4_apart : Cond.code yX4_apart cX4_apart 4 (Option.some Jvm.ClassFile.FieldType.int) ∈ WL := WL_3 237 (by decide +kernel) rfl
theorem wm_X4_104 : Cond.methodLink RX4 104 yX4_waiting ∈ WL := WL_3 238 (by decide +kernel) rfl
theorem wn_X4_waiting : Cond.instanceMethod yX4_waiting ∈ WL := WL_4 0 (by decide +kernel) rfl
theorem wc_X4_waiting : Cond.code yX4_waiting cX4_waiting 3 (Option.some Jvm.ClassFile.FieldType.int) ∈ WL := WL_4 1 (by decide +kernel) rfl
theorem wm_X4_98 : Cond.methodLink RX4 98 yX4_isWaiting ∈ WL := WL_4 2 (by decide +kernel) rfl
theorem wn_X4_isWaiting : Cond.instanceMethod yX4_isWaiting ∈ WL := WL_4 4 (by decide +kernel) rfl
theorem wc_X4_isWaiting : Cond.code yX4_isWaiting cX4_isWaiting 4 (Option.some Jvm.ClassFile.FieldType.boolean) ∈ WL := WL_4 5 (by decide +kernel) rfl
theorem wm_X4_92 : Cond.methodLink RX4 92 yX4_lampsOn ∈ WL := WL_4 6 (by decide +kernel) rfl
theorem wn_X4_lampsOn : Cond.instanceMethod yX4_lampsOn ∈ WL := WL_4 8 (by decide +kernel) rfl
theorem wc_X4_lampsOn : Cond.code yX4_lampsOn cX4_lampsOn 4 (Option.some Jvm.ClassFile.FieldType.int) ∈ WL := WL_4 9 (by decide +kernel) rfl
theorem wm_X4_95 : Cond.methodLink RX4 95 yX4_isAnyOtherCross ∈ WL := WL_4 10 (by decide +kernel) rfl
theorem wn_X4_isAnyOtherCross : Cond.instanceMethod yX4_isAnyOtherCross ∈ WL := WL_4 12 (by decide +kernel) rfl
theorem wc_X4_isAnyOtherCross : Cond.code yX4_isAnyOtherCross cX4_isAnyOtherCross 4 (Option.some Jvm.ClassFile.FieldType.boolean) ∈ WL := WL_4 13 (by decide +kernel) rfl
theorem wm_X4_107 : Cond.methodLink RX4 107 yX4_seenOnes ∈ WL := WL_4 14 (by decide +kernel) rfl
theorem wn_X4_seenOnes : Cond.instanceMethod yX4_seenOnes ∈ WL := WL_4 16 (by decide +kernel) rfl
theorem wc_X4_seenOnes : Cond.code yX4_seenOnes cX4_seenOnes 3 (Option.some Jvm.ClassFile.FieldType.int) ∈ WL := WL_4 17 (by decide +kernel) rfl
theorem wm_X4_110 : Cond.methodLink RX4 110 yX4_outOnes ∈ WL := WL_4 18 (by decide +kernel) rfl
theorem wn_X4_outOnes : Cond.instanceMethod yX4_outOnes ∈ WL := WL_4 20 (by decide +kernel) rfl
theorem wc_X4_outOnes : Cond.code yX4_outOnes cX4_outOnes 3 (Option.some Jvm.ClassFile.FieldType.int) ∈ WL := WL_4 21 (by decide +kernel) rfl
theorem wm_X4_113 : Cond.methodLink RX4 113 yX4_together ∈ WL := WL_4 22 (by decide +kernel) rfl
theorem wn_X4_together : Cond.instanceMethod yX4_together ∈ WL := WL_4 24 (by decide +kernel) rfl
theorem wc_X4_together : Cond.code yX4_together cX4_together 4 (Option.some Jvm.ClassFile.FieldType.int) ∈ WL := WL_4 25 (by decide +kernel) rfl
theorem wm_L_25 : Cond.methodLink RL 25 yX4_hangs ∈ WL := WL_4 26 (by decide +kernel) rfl
theorem wn_X4_hangs : Cond.instanceMethod yX4_hangs ∈ WL := WL_4 27 (by decide +kernel) rfl
theorem wl_X4_hangs : Cond.selects RX4 yX4_hangs yX4_hangs ∈ WL := WL_4 28 (by decide +kernel) rfl
theorem wc_X4_hangs : Cond.code yX4_hangs cX4_hangs 4 (Option.some Jvm.ClassFile.FieldType.int) ∈ WL := WL_4 29 (by decide +kernel) rfl
theorem wq_X4_116 : Cond.constantLong RX4 116 (3 : Int64) ∈ WL := WL_4 30 (by decide +kernel) rfl
theorem wm_L_30 : Cond.methodLink RL 30 yX4_figure ∈ WL := WL_4 31 (by decide +kernel) rfl
theorem wn_X4_figure : Cond.instanceMethod yX4_figure ∈ WL := WL_4 32 (by decide +kernel) rfl
theorem wl_X4_figure : Cond.selects RX4 yX4_figure yX4_figure ∈ WL := WL_4 33 (by decide +kernel) rfl
theorem wc_X4_figure : Cond.code yX4_figure cX4_figure 4 (Option.some Jvm.ClassFile.FieldType.int) ∈ WL := WL_4 34 (by decide +kernel) rfl
theorem wm_X4_118 : Cond.methodLink RX4 118 yX4_isKind ∈ WL := WL_4 35 (by decide +kernel) rfl
theorem wt_X4_isKind : Cond.static yX4_isKind ∈ WL := WL_4 36 (by decide +kernel) rfl
theorem wc_X4_isKind : Cond.code yX4_isKind cX4_isKind 1 (Option.some Jvm.ClassFile.FieldType.boolean) ∈ WL := WL_4 37 (by decide +kernel) rfl
theorem wq_X4_53 : Cond.constantLong RX4 53 (5 : Int64) ∈ WL := WL_4 38 (by decide +kernel) rfl
theorem wq_X4_121 : Cond.constantLong RX4 121 (19 : Int64) ∈ WL := WL_4 39 (by decide +kernel) rfl
theorem wq_X4_123 : Cond.constant RX4 123 (-1000000002 : Int32) ∈ WL := WL_4 40 (by decide +kernel) rfl
theorem wm_X4_124 : Cond.methodLink RX4 124 yX4_adds ∈ WL := WL_4 41 (by decide +kernel) rfl
theorem wn_X4_adds : Cond.instanceMethod yX4_adds ∈ WL := WL_4 43 (by decide +kernel) rfl
theorem wc_X4_adds : Cond.code yX4_adds cX4_adds 6 (Option.some Jvm.ClassFile.FieldType.int) ∈ WL := WL_4 44 (by decide +kernel) rfl
theorem wm_L_35 : Cond.methodLink RL 35 yX4_of ∈ WL := WL_4 45 (by decide +kernel) rfl
theorem wn_X4_of : Cond.instanceMethod yX4_of ∈ WL := WL_4 46 (by decide +kernel) rfl
theorem wl_X4_of : Cond.selects RX4 yX4_of yX4_of ∈ WL := WL_4 47 (by decide +kernel) rfl
theorem wc_X4_of : Cond.code yX4_of cX4_of 3 (Option.some Jvm.ClassFile.FieldType.int) ∈ WL := WL_4 48 (by decide +kernel) rfl
theorem wm_X4_128 : Cond.methodLink RX4 128 yX4_isFigure ∈ WL := WL_4 49 (by decide +kernel) rfl
theorem wn_X4_isFigure : Cond.instanceMethod yX4_isFigure ∈ WL := WL_4 51 (by decide +kernel) rfl
theorem wc_X4_isFigure : Cond.code yX4_isFigure cX4_isFigure 2 (Option.some Jvm.ClassFile.FieldType.boolean) ∈ WL := WL_4 52 (by decide +kernel) rfl
theorem wq_X4_131 : Cond.constantLong RX4 131 (11 : Int64) ∈ WL := WL_4 53 (by decide +kernel) rfl
theorem wm_X4_133 : Cond.methodLink RX4 133 yX4_rubsOf ∈ WL := WL_4 54 (by decide +kernel) rfl
theorem wn_X4_rubsOf : Cond.instanceMethod yX4_rubsOf ∈ WL := WL_4 56 (by decide +kernel) rfl
theorem wc_X4_rubsOf : Cond.code yX4_rubsOf cX4_rubsOf 4 (Option.some Jvm.ClassFile.FieldType.int) ∈ WL := WL_4 57 (by decide +kernel) rfl
theorem wm_X4_89 : Cond.methodLink RX4 89 yX4_beside ∈ WL := WL_4 58 (by decide +kernel) rfl
theorem wn_X4_beside : Cond.instanceMethod yX4_beside ∈ WL := WL_4 60 (by decide +kernel) rfl
theorem wc_X4_beside : Cond.code yX4_beside cX4_beside 4 (Option.some Jvm.ClassFile.FieldType.int) ∈ WL := WL_4 61 (by decide +kernel) rfl
theorem wm_L_39 : Cond.methodLink RL 39 yX4_set ∈ WL := WL_4 62 (by decide +kernel) rfl
theorem wn_X4_set : Cond.instanceMethod yX4_set ∈ WL := WL_4 63 (by decide +kernel) rfl
theorem wl_X4_set : Cond.selects RX4 yX4_set yX4_set ∈ WL := WL_4 64 (by decide +kernel) rfl
theorem wc_X4_set : Cond.code yX4_set cX4_set 4 (Option.some Jvm.ClassFile.FieldType.int) ∈ WL := WL_4 65 (by decide +kernel) rfl
theorem wm_X4_142 : Cond.methodLink RX4 142 yX4_isSet ∈ WL := WL_4 66 (by decide +kernel) rfl
theorem wn_X4_isSet : Cond.instanceMethod yX4_isSet ∈ WL := WL_4 68 (by decide +kernel) rfl
theorem wc_X4_isSet : Cond.code yX4_isSet cX4_isSet 3 (Option.some Jvm.ClassFile.FieldType.boolean) ∈ WL := WL_4 69 (by decide +kernel) rfl
theorem wq_X4_136 : Cond.constantLong RX4 136 (99 : Int64) ∈ WL := WL_4 70 (by decide +kernel) rfl
theorem wq_X4_138 : Cond.constantLong RX4 138 (4 : Int64) ∈ WL := WL_4 71 (by decide +kernel) rfl
theorem wq_X4_140 : Cond.constantLong RX4 140 (9999 : Int64) ∈ WL := WL_4 72 (by decide +kernel) rfl
theorem wm_L_43 : Cond.methodLink RL 43 yX4_seen ∈ WL := WL_4 73 (by decide +kernel) rfl
theorem wn_X4_seen : Cond.instanceMethod yX4_seen ∈ WL := WL_4 74 (by decide +kernel) rfl
theorem wl_X4_seen : Cond.selects RX4 yX4_seen yX4_seen ∈ WL := WL_4 75 (by decide +kernel) rfl
theorem wc_X4_seen : Cond.code yX4_seen cX4_seen 2 (Option.some Jvm.ClassFile.FieldType.int) ∈ WL := WL_4 76 (by decide +kernel) rfl
theorem wm_L_47 : Cond.methodLink RL 47 yX4_turn ∈ WL := WL_4 77 (by decide +kernel) rfl
theorem wn_X4_turn : Cond.instanceMethod yX4_turn ∈ WL := WL_4 78 (by decide +kernel) rfl
theorem wl_X4_turn : Cond.selects RX4 yX4_turn yX4_turn ∈ WL := WL_4 79 (by decide +kernel) rfl
theorem wc_X4_turn : Cond.code yX4_turn cX4_turn 3 (Option.some Jvm.ClassFile.FieldType.int) ∈ WL := WL_4 80 (by decide +kernel) rfl
theorem wm_L_51 : Cond.methodLink RL 51 yX4_as ∈ WL := WL_4 81 (by decide +kernel) rfl
theorem wn_X4_as : Cond.instanceMethod yX4_as ∈ WL := WL_4 82 (by decide +kernel) rfl
theorem wl_X4_as : Cond.selects RX4 yX4_as yX4_as ∈ WL := WL_4 83 (by decide +kernel) rfl
theorem wc_X4_as : Cond.code yX4_as cX4_as 3 (Option.some Jvm.ClassFile.FieldType.int) ∈ WL := WL_4 84 (by decide +kernel) rfl
theorem wm_X4_145 : Cond.methodLink RX4 145 yX4_isUnder ∈ WL := WL_4 85 (by decide +kernel) rfl
theorem wt_X4_isUnder : Cond.static yX4_isUnder ∈ WL := WL_4 86 (by decide +kernel) rfl
theorem wc_X4_isUnder : Cond.code yX4_isUnder cX4_isUnder 2 (Option.some Jvm.ClassFile.FieldType.boolean) ∈ WL := WL_4 87 (by decide +kernel) rfl
theorem wq_X4_148 : Cond.constant RX4 148 (-1000000003 : Int32) ∈ WL := WL_4 88 (by decide +kernel) rfl
theorem wm_L_55 : Cond.methodLink RL 55 yX4_hours ∈ WL := WL_4 89 (by decide +kernel) rfl
theorem wn_X4_hours : Cond.instanceMethod yX4_hours ∈ WL := WL_4 90 (by decide +kernel) rfl
theorem wl_X4_hours : Cond.selects RX4 yX4_hours yX4_hours ∈ WL := WL_4 91 (by decide +kernel) rfl
theorem wc_X4_hours : Cond.code yX4_hours cX4_hours 2 (Option.some Jvm.ClassFile.FieldType.int) ∈ WL := WL_4 92 (by decide +kernel) rfl
theorem wq_X4_162 : Cond.constantLong RX4 162 (100 : Int64) ∈ WL := WL_4 93 (by decide +kernel) rfl
theorem wq_X4_164 : Cond.constant RX4 164 (99999 : Int32) ∈ WL := WL_4 94 (by decide +kernel) rfl
theorem wq_X4_165 : Cond.constant RX4 165 (-1000000005 : Int32) ∈ WL := WL_4 95 (by decide +kernel) rfl
theorem wm_X4_166 : Cond.methodLink RX4 166 yX4_hoursGo ∈ WL := WL_4 96 (by decide +kernel) rfl
theorem wn_X4_hoursGo : Cond.instanceMethod yX4_hoursGo ∈ WL := WL_4 98 (by decide +kernel) rfl
theorem wc_X4_hoursGo : Cond.code yX4_hoursGo cX4_hoursGo 3 (Option.none : Option Jvm.ClassFile.FieldType) ∈ WL := WL_4 99 (by decide +kernel) rfl
theorem wm_X4_159 : Cond.methodLink RX4 159 yX4_hour ∈ WL := WL_4 100 (by decide +kernel) rfl
theorem wn_X4_hour : Cond.instanceMethod yX4_hour ∈ WL := WL_4 102 (by decide +kernel) rfl
theorem wc_X4_hour : Cond.code yX4_hour cX4_hour 2 (Option.none : Option Jvm.ClassFile.FieldType) ∈ WL := WL_4 103 (by decide +kernel) rfl
theorem wm_X4_155 : Cond.methodLink RX4 155 yX4_works ∈ WL := WL_4 104 (by decide +kernel) rfl
theorem wn_X4_works : Cond.instanceMethod yX4_works ∈ WL := WL_4 106 (by decide +kernel) rfl
theorem wc_X4_works : Cond.code yX4_works cX4_works 6 (Option.none : Option Jvm.ClassFile.FieldType) ∈ WL := WL_4 107 (by decide +kernel) rfl
theorem wm_X4_149 : Cond.methodLink RX4 149 yX4_held ∈ WL := WL_4 108 (by decide +kernel) rfl
theorem wt_X4_held : Cond.static yX4_held ∈ WL := WL_4 109 (by decide +kernel) rfl
theorem wc_X4_held : Cond.code yX4_held cX4_held 3 (Option.some Jvm.ClassFile.FieldType.int) ∈ WL := WL_4 110 (by decide +kernel) rfl
theorem wm_X4_152 : Cond.methodLink RX4 152 yX4_columnBy ∈ WL := WL_4 111 (by decide +kernel) rfl
theorem wn_X4_columnBy : Cond.instanceMethod yX4_columnBy ∈ WL := WL_4 113 (by decide +kernel) rfl
theorem wc_X4_columnBy : Cond.code yX4_columnBy cX4_columnBy 7 (Option.some Jvm.ClassFile.FieldType.int) ∈ WL := WL_4 114 (by decide +kernel) rfl
theorem wm_L_59 : Cond.methodLink RL 59 yX4_on ∈ WL := WL_4 115 (by decide +kernel) rfl
theorem wn_X4_on : Cond.instanceMethod yX4_on ∈ WL := WL_4 116 (by decide +kernel) rfl
theorem wl_X4_on : Cond.selects RX4 yX4_on yX4_on ∈ WL := WL_4 117 (by decide +kernel) rfl
theorem wc_X4_on : Cond.code yX4_on cX4_on 4 (Option.some Jvm.ClassFile.FieldType.int) ∈ WL := WL_4 118 (by decide +kernel) rfl
theorem wm_X4_180 : Cond.methodLink RX4 180 yX4_isAhead ∈ WL := WL_4 119 (by decide +kernel) rfl
theorem wt_X4_isAhead : Cond.static yX4_isAhead ∈ WL := WL_4 120 (by decide +kernel) rfl
theorem wc_X4_isAhead : Cond.code yX4_isAhead cX4_isAhead 1 (Option.some Jvm.ClassFile.FieldType.boolean) ∈ WL := WL_4 121 (by decide +kernel) rfl
theorem wq_X4_169 : Cond.constantLong RX4 169 (200 : Int64) ∈ WL := WL_4 122 (by decide +kernel) rfl
theorem wm_X4_183 : Cond.methodLink RX4 183 yX4_behind ∈ WL := WL_4 123 (by decide +kernel) rfl
theorem wn_X4_behind : Cond.instanceMethod yX4_behind ∈ WL := WL_4 125 (by decide +kernel) rfl
theorem wc_X4_behind : Cond.code yX4_behind cX4_behind 3 (Option.some Jvm.ClassFile.FieldType.int) ∈ WL := WL_4 126 (by decide +kernel) rfl
theorem wm_X4_171 : Cond.methodLink RX4 171 yX4_laysAside ∈ WL := WL_4 127 (by decide +kernel) rfl
theorem wn_X4_laysAside : Cond.instanceMethod yX4_laysAside ∈ WL := WL_4 129 (by decide +kernel) rfl
theorem wc_X4_laysAside : Cond.code yX4_laysAside cX4_laysAside 2 (Option.none : Option Jvm.ClassFile.FieldType) ∈ WL := WL_4 130 (by decide +kernel) rfl
theorem wm_X4_174 : Cond.methodLink RX4 174 yX4_takesBack ∈ WL := WL_4 131 (by decide +kernel) rfl
theorem wn_X4_takesBack : Cond.instanceMethod yX4_takesBack ∈ WL := WL_4 133 (by decide +kernel) rfl
theorem wc_X4_takesBack : Cond.code yX4_takesBack cX4_takesBack 3 (Option.some Jvm.ClassFile.FieldType.int) ∈ WL := WL_4 134 (by decide +kernel) rfl
theorem wm_L_63 : Cond.methodLink RL 63 yX4_when ∈ WL := WL_4 135 (by decide +kernel) rfl
theorem wn_X4_when : Cond.instanceMethod yX4_when ∈ WL := WL_4 136 (by decide +kernel) rfl
theorem wl_X4_when : Cond.selects RX4 yX4_when yX4_when ∈ WL := WL_4 137 (by decide +kernel) rfl
theorem wc_X4_when : Cond.code yX4_when cX4_when 3 (Option.some Jvm.ClassFile.FieldType.int) ∈ WL := WL_4 138 (by decide +kernel) rfl
theorem wm_X4_187 : Cond.methodLink RX4 187 yX4_toldAt ∈ WL := WL_4 139 (by decide +kernel) rfl
theorem wn_X4_toldAt : Cond.instanceMethod yX4_toldAt ∈ WL := WL_4 141 (by decide +kernel) rfl
theorem wc_X4_toldAt : Cond.code yX4_toldAt cX4_toldAt 3 (Option.some Jvm.ClassFile.FieldType.int) ∈ WL := WL_4 142 (by decide +kernel) rfl
theorem wq_X4_186 : Cond.constant RX4 186 (-1000000004 : Int32) ∈ WL := WL_4 143 (by decide +kernel) rfl
theorem wm_L_68 : Cond.methodLink RL 68 yX4_all ∈ WL := WL_4 144 (by decide +kernel) rfl
theorem wn_X4_all : Cond.instanceMethod yX4_all ∈ WL := WL_4 145 (by decide +kernel) rfl
theorem wl_X4_all : Cond.selects RX4 yX4_all yX4_all ∈ WL := WL_4 146 (by decide +kernel) rfl
theorem wc_X4_all : Cond.code yX4_all cX4_all 2 (Option.some Jvm.ClassFile.FieldType.int) ∈ WL := WL_4 147 (by decide +kernel) rfl
theorem wm_X4_177 : Cond.methodLink RX4 177 yX4_contentMany ∈ WL := WL_4 148 (by decide +kernel) rfl
theorem wn_X4_contentMany : Cond.instanceMethod yX4_contentMany ∈ WL := WL_4 150 (by decide +kernel) rfl
theorem wc_X4_contentMany : Cond.code yX4_contentMany cX4_contentMany 3 (Option.some Jvm.ClassFile.FieldType.int) ∈ WL := WL_4 151 (by decide +kernel) rfl
theorem wm_L_72 : Cond.methodLink RL 72 yX4_many ∈ WL := WL_4 152 (by decide +kernel) rfl
theorem wn_X4_many : Cond.instanceMethod yX4_many ∈ WL := WL_4 153 (by decide +kernel) rfl
theorem wl_X4_many : Cond.selects RX4 yX4_many yX4_many ∈ WL := WL_4 154 (by decide +kernel) rfl
theorem wc_X4_many : Cond.code yX4_many cX4_many 2 (Option.some Jvm.ClassFile.FieldType.int) ∈ WL := WL_4 155 (by decide +kernel) rfl
theorem wm_X4_190 : Cond.methodLink RX4 190 yX4_manyBehind ∈ WL := WL_4 156 (by decide +kernel) rfl
theorem wn_X4_manyBehind : Cond.instanceMethod yX4_manyBehind ∈ WL := WL_4 158 (by decide +kernel) rfl
theorem wc_X4_manyBehind : Cond.code yX4_manyBehind cX4_manyBehind 2 (Option.some Jvm.ClassFile.FieldType.int) ∈ WL := WL_4 159 (by decide +kernel) rfl
theorem wm_L_76 : Cond.methodLink RL 76 yX4_porter ∈ WL := WL_4 160 (by decide +kernel) rfl
theorem wn_X4_porter : Cond.instanceMethod yX4_porter ∈ WL := WL_4 161 (by decide +kernel) rfl
theorem wl_X4_porter : Cond.selects RX4 yX4_porter yX4_porter ∈ WL := WL_4 162 (by decide +kernel) rfl
theorem wc_X4_porter : Cond.code yX4_porter cX4_porter 6 (Option.some Jvm.ClassFile.FieldType.int) ∈ WL := WL_4 163 (by decide +kernel) rfl
theorem wm_X4_195 : Cond.methodLink RX4 195 yX4_isSoon ∈ WL := WL_4 164 (by decide +kernel) rfl
theorem wt_X4_isSoon : Cond.static yX4_isSoon ∈ WL := WL_4 165 (by decide +kernel) rfl
theorem wc_X4_isSoon : Cond.code yX4_isSoon cX4_isSoon 1 (Option.some Jvm.ClassFile.FieldType.boolean) ∈ WL := WL_4 166 (by decide +kernel) rfl
theorem wq_X4_193 : Cond.constantLong RX4 193 (40 : Int64) ∈ WL := WL_4 167 (by decide +kernel) rfl
theorem wm_L_80 : Cond.methodLink RL 80 yX4_by ∈ WL := WL_4 168 (by decide +kernel) rfl
theorem wn_X4_by : Cond.instanceMethod yX4_by ∈ WL := WL_4 169 (by decide +kernel) rfl
theorem wl_X4_by : Cond.selects RX4 yX4_by yX4_by ∈ WL := WL_4 170 (by decide +kernel) rfl
theorem wc_X4_by : Cond.code yX4_by cX4_by 6 (Option.some Jvm.ClassFile.FieldType.int) ∈ WL := WL_4 171 (by decide +kernel) rfl
theorem wm_L_84 : Cond.methodLink RL 84 yX4_kind ∈ WL := WL_4 172 (by decide +kernel) rfl
theorem wn_X4_kind : Cond.instanceMethod yX4_kind ∈ WL := WL_4 173 (by decide +kernel) rfl
theorem wl_X4_kind : Cond.selects RX4 yX4_kind yX4_kind ∈ WL := WL_4 174 (by decide +kernel) rfl
theorem wc_X4_kind : Cond.code yX4_kind cX4_kind 8 (Option.some Jvm.ClassFile.FieldType.int) ∈ WL := WL_4 175 (by decide +kernel) rfl
theorem wq_X4_198 : Cond.constantLong RX4 198 (60 : Int64) ∈ WL := WL_4 176 (by decide +kernel) rfl
theorem wm_L_88 : Cond.methodLink RL 88 yX4_place ∈ WL := WL_4 177 (by decide +kernel) rfl
theorem wn_X4_place : Cond.instanceMethod yX4_place ∈ WL := WL_4 178 (by decide +kernel) rfl
theorem wl_X4_place : Cond.selects RX4 yX4_place yX4_place ∈ WL := WL_4 179 (by decide +kernel) rfl
theorem wc_X4_place : Cond.code yX4_place cX4_place 3 (Option.some Jvm.ClassFile.FieldType.int) ∈ WL := WL_4 180 (by decide +kernel) rfl
theorem wm_X4_200 : Cond.methodLink RX4 200 yX4_mostBy ∈ WL := WL_4 181 (by decide +kernel) rfl
theorem wn_X4_mostBy : Cond.instanceMethod yX4_mostBy ∈ WL := WL_4 183 (by decide +kernel) rfl
theorem wc_X4_mostBy : Cond.code yX4_mostBy cX4_mostBy 9 (Option.some Jvm.ClassFile.FieldType.int) ∈ WL := WL_4 184 (by decide +kernel) rfl
theorem wm_L_92 : Cond.methodLink RL 92 yX4_clash ∈ WL := WL_4 185 (by decide +kernel) rfl
theorem wn_X4_clash : Cond.instanceMethod yX4_clash ∈ WL := WL_4 186 (by decide +kernel) rfl
theorem wl_X4_clash : Cond.selects RX4 yX4_clash yX4_clash ∈ WL := WL_4 187 (by decide +kernel) rfl
theorem wc_X4_clash : Cond.code yX4_clash cX4_clash 5 (Option.some Jvm.ClassFile.FieldType.int) ∈ WL := WL_4 188 (by decide +kernel) rfl
theorem wm_X4_203 : Cond.methodLink RX4 203 yX4_isClash ∈ WL := WL_4 189 (by decide +kernel) rfl
theorem wn_X4_isClash : Cond.instanceMethod yX4_isClash ∈ WL := WL_4 191 (by decide +kernel) rfl
theorem wc_X4_isClash : Cond.code yX4_isClash cX4_isClash 10 (Option.some Jvm.ClassFile.FieldType.boolean) ∈ WL := WL_4 192 (by decide +kernel) rfl
theorem wm_L_96 : Cond.methodLink RL 96 yX4_want ∈ WL := WL_4 193 (by decide +kernel) rfl
theorem wn_X4_want : Cond.instanceMethod yX4_want ∈ WL := WL_4 194 (by decide +kernel) rfl
theorem wl_X4_want : Cond.selects RX4 yX4_want yX4_want ∈ WL := WL_4 195 (by decide +kernel) rfl
theorem wc_X4_want : Cond.code yX4_want cX4_want 3 (Option.some Jvm.ClassFile.FieldType.int) ∈ WL := WL_4 196 (by decide +kernel) rfl
theorem wm_L_100 : Cond.methodLink RL 100 yX4_nose ∈ WL := WL_4 197 (by decide +kernel) rfl
theorem wn_X4_nose : Cond.instanceMethod yX4_nose ∈ WL := WL_4 198 (by decide +kernel) rfl
theorem wl_X4_nose : Cond.selects RX4 yX4_nose yX4_nose ∈ WL := WL_4 199 (by decide +kernel) rfl
theorem wc_X4_nose : Cond.code yX4_nose cX4_nose 7 (Option.some Jvm.ClassFile.FieldType.int) ∈ WL := WL_4 200 (by decide +kernel) rfl
theorem wm_L_104 : Cond.methodLink RL 104 yX4_feed ∈ WL := WL_4 201 (by decide +kernel) rfl
theorem wn_X4_feed : Cond.instanceMethod yX4_feed ∈ WL := WL_4 202 (by decide +kernel) rfl
theorem wl_X4_feed : Cond.selects RX4 yX4_feed yX4_feed ∈ WL := WL_4 203 (by decide +kernel) rfl
theorem wc_X4_feed : Cond.code yX4_feed cX4_feed 4 (Option.some Jvm.ClassFile.FieldType.int) ∈ WL := WL_4 204 (by decide +kernel) rfl
theorem wm_L_108 : Cond.methodLink RL 108 yX4_wipe ∈ WL := WL_4 205 (by decide +kernel) rfl
theorem wn_X4_wipe : Cond.instanceMethod yX4_wipe ∈ WL := WL_4 206 (by decide +kernel) rfl
theorem wl_X4_wipe : Cond.selects RX4 yX4_wipe yX4_wipe ∈ WL := WL_4 207 (by decide +kernel) rfl
theorem wc_X4_wipe : Cond.code yX4_wipe cX4_wipe 2 (Option.some Jvm.ClassFile.FieldType.int) ∈ WL := WL_4 208 (by decide +kernel) rfl
theorem wm_L_112 : Cond.methodLink RL 112 yX4_night ∈ WL := WL_4 209 (by decide +kernel) rfl
theorem wn_X4_night : Cond.instanceMethod yX4_night ∈ WL := WL_4 210 (by decide +kernel) rfl
theorem wl_X4_night : Cond.selects RX4 yX4_night yX4_night ∈ WL := WL_4 211 (by decide +kernel) rfl
theorem wc_X4_night : Cond.code yX4_night cX4_night 2 (Option.some Jvm.ClassFile.FieldType.int) ∈ WL := WL_4 212 (by decide +kernel) rfl
theorem wm_X4_310 : Cond.methodLink RX4 310 yX4_saves ∈ WL := WL_4 213 (by decide +kernel) rfl
theorem wn_X4_saves : Cond.instanceMethod yX4_saves ∈ WL := WL_4 215 (by decide +kernel) rfl
theorem wc_X4_saves : Cond.code yX4_saves cX4_saves 2 (Option.none : Option Jvm.ClassFile.FieldType) ∈ WL := WL_4 216 (by decide +kernel) rfl
theorem wm_X4_238 : Cond.methodLink RX4 238 yX4_token ∈ WL := WL_4 217 (by decide +kernel) rfl
theorem wn_X4_token : Cond.instanceMethod yX4_token ∈ WL := WL_4 219 (by decide +kernel) rfl
theorem wc_X4_token : Cond.code yX4_token cX4_token 3 (Option.none : Option Jvm.ClassFile.FieldType) ∈ WL := WL_4 220 (by decide +kernel) rfl
theorem wm_X4_225 : Cond.methodLink RX4 225 yX4_byteAt ∈ WL := WL_4 221 (by decide +kernel) rfl
theorem wn_X4_byteAt : Cond.instanceMethod yX4_byteAt ∈ WL := WL_4 223 (by decide +kernel) rfl
theorem wc_X4_byteAt : Cond.code yX4_byteAt cX4_byteAt 2 (Option.some Jvm.ClassFile.FieldType.int) ∈ WL := WL_4 224 (by decide +kernel) rfl
theorem wm_X4_228 : Cond.methodLink RX4 228 yX4_isLetter ∈ WL := WL_4 225 (by decide +kernel) rfl
theorem wt_X4_isLetter : Cond.static yX4_isLetter ∈ WL := WL_4 226 (by decide +kernel) rfl
theorem wc_X4_isLetter : Cond.code yX4_isLetter cX4_isLetter 1 (Option.some Jvm.ClassFile.FieldType.boolean) ∈ WL := WL_4 227 (by decide +kernel) rfl
theorem wq_X4_211 : Cond.constantLong RX4 211 (97 : Int64) ∈ WL := WL_4 228 (by decide +kernel) rfl
theorem wq_X4_213 : Cond.constantLong RX4 213 (122 : Int64) ∈ WL := WL_4 229 (by decide +kernel) rfl
theorem wm_X4_231 : Cond.methodLink RX4 231 yX4_isDigit ∈ WL := WL_4 230 (by decide +kernel) rfl
theorem wt_X4_isDigit : Cond.static yX4_isDigit ∈ WL := WL_4 231 (by decide +kernel) rfl
theorem wc_X4_isDigit : Cond.code yX4_isDigit cX4_isDigit 1 (Option.some Jvm.ClassFile.FieldType.boolean) ∈ WL := WL_4 232 (by decide +kernel) rfl
theorem wq_X4_215 : Cond.constantLong RX4 215 (48 : Int64) ∈ WL := WL_4 233 (by decide +kernel) rfl
theorem wq_X4_217 : Cond.constantLong RX4 217 (57 : Int64) ∈ WL := WL_4 234 (by decide +kernel) rfl
theorem wm_X4_313 : Cond.methodLink RX4 313 yX4_item ∈ WL := WL_4 235 (by decide +kernel) rfl
theorem wn_X4_item : Cond.instanceMethod yX4_item ∈ WL := WL_4 237 (by decide +kernel) rfl
theorem wc_X4_item : Cond.code yX4_item cX4_item 4 (Option.none : Option Jvm.ClassFile.FieldType) ∈ WL := WL_4 238 (by decide +kernel) rfl
theorem wm_X4_287 : Cond.methodLink RX4 287 yX4_kindHere ∈ WL := WL_4 239 (by decide +kernel) rfl
theorem wn_X4_kindHere : Cond.instanceMethod yX4_kindHere ∈ WL := WL_5 1 (by decide +kernel) rfl
theorem wc_X4_kindHere : Cond.code yX4_kindHere cX4_kindHere 3 (Option.some Jvm.ClassFile.FieldType.int) ∈ WL := WL_5 2 (by decide +kernel) rfl
theorem wm_X4_252 : Cond.methodLink RX4 252 yX4_word ∈ WL := WL_5 3 (by decide +kernel) rfl
theorem wn_X4_word : Cond.instanceMethod yX4_word ∈ WL := WL_5 5 (by decide +kernel) rfl
theorem wc_X4_word : Cond.code yX4_word cX4_word 4 (Option.some Jvm.ClassFile.FieldType.long) ∈ WL := WL_5 6 (by decide +kernel) rfl
theorem wq_X4_241 : Cond.constantLong RX4 241 (36028797018963967 : Int64) ∈ WL := WL_5 7 (by decide +kernel) rfl
theorem wq_X4_243 : Cond.constantLong RX4 243 (32 : Int64) ∈ WL := WL_5 8 (by decide +kernel) rfl
theorem wq_X4_256 : Cond.constantLong RX4 256 (647647410 : Int64) ∈ WL := WL_5 9 (by decide +kernel) rfl
theorem wq_X4_258 : Cond.constantLong RX4 258 (13690354 : Int64) ∈ WL := WL_5 10 (by decide +kernel) rfl
theorem wq_X4_260 : Cond.constantLong RX4 260 (763077 : Int64) ∈ WL := WL_5 11 (by decide +kernel) rfl
theorem wq_X4_262 : Cond.constantLong RX4 262 (211394738 : Int64) ∈ WL := WL_5 12 (by decide +kernel) rfl
theorem wq_X4_264 : Cond.constantLong RX4 264 (47384704046 : Int64) ∈ WL := WL_5 13 (by decide +kernel) rfl
theorem wq_X4_266 : Cond.constantLong RX4 266 (267300 : Int64) ∈ WL := WL_5 14 (by decide +kernel) rfl
theorem wm_X4_290 : Cond.methodLink RX4 290 yX4_figureItem ∈ WL := WL_5 15 (by decide +kernel) rfl
theorem wn_X4_figureItem : Cond.instanceMethod yX4_figureItem ∈ WL := WL_5 17 (by decide +kernel) rfl
theorem wc_X4_figureItem : Cond.code yX4_figureItem cX4_figureItem 4 (Option.none : Option Jvm.ClassFile.FieldType) ∈ WL := WL_5 18 (by decide +kernel) rfl
theorem wm_X4_248 : Cond.methodLink RX4 248 yX4_must ∈ WL := WL_5 19 (by decide +kernel) rfl
theorem wn_X4_must : Cond.instanceMethod yX4_must ∈ WL := WL_5 21 (by decide +kernel) rfl
theorem wc_X4_must : Cond.code yX4_must cX4_must 2 (Option.none : Option Jvm.ClassFile.FieldType) ∈ WL := WL_5 22 (by decide +kernel) rfl
theorem wm_X4_278 : Cond.methodLink RX4 278 yX4_number ∈ WL := WL_5 23 (by decide +kernel) rfl
theorem wn_X4_number : Cond.instanceMethod yX4_number ∈ WL := WL_5 25 (by decide +kernel) rfl
theorem wc_X4_number : Cond.code yX4_number cX4_number 6 (Option.none : Option Jvm.ClassFile.FieldType) ∈ WL := WL_5 26 (by decide +kernel) rfl
theorem wq_X4_282 : Cond.constantLong RX4 282 (474725 : Int64) ∈ WL := WL_5 27 (by decide +kernel) rfl
theorem wq_X4_276 : Cond.constantLong RX4 276 (12596 : Int64) ∈ WL := WL_5 28 (by decide +kernel) rfl
theorem wq_X4_293 : Cond.constantLong RX4 293 (24165011 : Int64) ∈ WL := WL_5 29 (by decide +kernel) rfl
theorem wm_X4_295 : Cond.methodLink RX4 295 yX4_wantsItem ∈ WL := WL_5 30 (by decide +kernel) rfl
theorem wn_X4_wantsItem : Cond.instanceMethod yX4_wantsItem ∈ WL := WL_5 32 (by decide +kernel) rfl
theorem wc_X4_wantsItem : Cond.code yX4_wantsItem cX4_wantsItem 3 (Option.none : Option Jvm.ClassFile.FieldType) ∈ WL := WL_5 33 (by decide +kernel) rfl
theorem wm_X4_284 : Cond.methodLink RX4 284 yX4_wantHere ∈ WL := WL_5 34 (by decide +kernel) rfl
theorem wn_X4_wantHere : Cond.instanceMethod yX4_wantHere ∈ WL := WL_5 36 (by decide +kernel) rfl
theorem wc_X4_wantHere : Cond.code yX4_wantHere cX4_wantHere 3 (Option.some Jvm.ClassFile.FieldType.int) ∈ WL := WL_5 37 (by decide +kernel) rfl
theorem wq_X4_268 : Cond.constantLong RX4 268 (20685869234 : Int64) ∈ WL := WL_5 38 (by decide +kernel) rfl
theorem wq_X4_270 : Cond.constantLong RX4 270 (475056306 : Int64) ∈ WL := WL_5 39 (by decide +kernel) rfl
theorem wq_X4_272 : Cond.constantLong RX4 272 (6495543474 : Int64) ∈ WL := WL_5 40 (by decide +kernel) rfl
theorem wq_X4_274 : Cond.constantLong RX4 274 (132683 : Int64) ∈ WL := WL_5 41 (by decide +kernel) rfl
theorem wq_X4_298 : Cond.constantLong RX4 298 (16052 : Int64) ∈ WL := WL_5 42 (by decide +kernel) rfl
theorem wq_X4_300 : Cond.constantLong RX4 300 (302 : Int64) ∈ WL := WL_5 43 (by decide +kernel) rfl
theorem wm_X4_302 : Cond.methodLink RX4 302 yX4_outItem ∈ WL := WL_5 44 (by decide +kernel) rfl
theorem wn_X4_outItem : Cond.instanceMethod yX4_outItem ∈ WL := WL_5 46 (by decide +kernel) rfl
theorem wc_X4_outItem : Cond.code yX4_outItem cX4_outItem 2 (Option.none : Option Jvm.ClassFile.FieldType) ∈ WL := WL_5 47 (by decide +kernel) rfl
theorem wq_X4_305 : Cond.constantLong RX4 305 (21007737 : Int64) ∈ WL := WL_5 48 (by decide +kernel) rfl
theorem wm_X4_307 : Cond.methodLink RX4 307 yX4_tackyItem ∈ WL := WL_5 49 (by decide +kernel) rfl
theorem wn_X4_tackyItem : Cond.instanceMethod yX4_tackyItem ∈ WL := WL_5 51 (by decide +kernel) rfl
theorem wc_X4_tackyItem : Cond.code yX4_tackyItem cX4_tackyItem 1 (Option.none : Option Jvm.ClassFile.FieldType) ∈ WL := WL_5 52 (by decide +kernel) rfl
theorem wm_X4_316 : Cond.methodLink RX4 316 yX4_putsBack ∈ WL := WL_5 53 (by decide +kernel) rfl
theorem wn_X4_putsBack : Cond.instanceMethod yX4_putsBack ∈ WL := WL_5 55 (by decide +kernel) rfl
theorem wc_X4_putsBack : Cond.code yX4_putsBack cX4_putsBack 2 (Option.none : Option Jvm.ClassFile.FieldType) ∈ WL := WL_5 56 (by decide +kernel) rfl
theorem wm_L_116 : Cond.methodLink RL 116 yX4_sheet ∈ WL := WL_5 57 (by decide +kernel) rfl
theorem wn_X4_sheet : Cond.instanceMethod yX4_sheet ∈ WL := WL_5 58 (by decide +kernel) rfl
theorem wl_X4_sheet : Cond.selects RX4 yX4_sheet yX4_sheet ∈ WL := WL_5 59 (by decide +kernel) rfl
theorem wc_X4_sheet : Cond.code yX4_sheet cX4_sheet 5 (Option.some Jvm.ClassFile.FieldType.int) ∈ WL := WL_5 60 (by decide +kernel) rfl
theorem wm_X4_319 : Cond.methodLink RX4 319 yX4_isOne ∈ WL := WL_5 61 (by decide +kernel) rfl
theorem wt_X4_isOne : Cond.static yX4_isOne ∈ WL := WL_5 62 (by decide +kernel) rfl
theorem wc_X4_isOne : Cond.code yX4_isOne cX4_isOne 1 (Option.some Jvm.ClassFile.FieldType.boolean) ∈ WL := WL_5 63 (by decide +kernel) rfl
theorem wq_X4_322 : Cond.constant RX4 322 (-1000000007 : Int32) ∈ WL := WL_5 64 (by decide +kernel) rfl
theorem wm_L_123 : Cond.methodLink RL 123 yX4_write ∈ WL := WL_5 65 (by decide +kernel) rfl
theorem wn_X4_write : Cond.instanceMethod yX4_write ∈ WL := WL_5 66 (by decide +kernel) rfl
theorem wl_X4_write : Cond.selects RX4 yX4_write yX4_write ∈ WL := WL_5 67 (by decide +kernel) rfl
theorem wc_X4_write : Cond.code yX4_write cX4_write 8 (Option.some Jvm.ClassFile.FieldType.long) ∈ WL := WL_5 68 (by decide +kernel) rfl
theorem wm_X4_324 : Cond.methodLink RX4 324 yX4_wrongSheet ∈ WL := WL_5 69 (by decide +kernel) rfl
theorem wn_X4_wrongSheet : Cond.instanceMethod yX4_wrongSheet ∈ WL := WL_5 71 (by decide +kernel) rfl
theorem wc_X4_wrongSheet : Cond.code yX4_wrongSheet cX4_wrongSheet 2 (Option.some Jvm.ClassFile.FieldType.int) ∈ WL := WL_5 72 (by decide +kernel) rfl
theorem wq_X4_323 : Cond.constant RX4 323 (-1000000006 : Int32) ∈ WL := WL_5 73 (by decide +kernel) rfl
theorem wm_X4_327 : Cond.methodLink RX4 327 yX4_narrowed ∈ WL := WL_5 74 (by decide +kernel) rfl
theorem wt_X4_narrowed : Cond.static yX4_narrowed ∈ WL := WL_5 75 (by decide +kernel) rfl
theorem wc_X4_narrowed : Cond.code yX4_narrowed cX4_narrowed 3 (Option.some Jvm.ClassFile.FieldType.long) ∈ WL := WL_5 76 (by decide +kernel) rfl
theorem wm_L_128 : Cond.methodLink RL 128 yX4_copy ∈ WL := WL_5 77 (by decide +kernel) rfl
theorem wn_X4_copy : Cond.instanceMethod yX4_copy ∈ WL := WL_5 78 (by decide +kernel) rfl
theorem wl_X4_copy : Cond.selects RX4 yX4_copy yX4_copy ∈ WL := WL_5 79 (by decide +kernel) rfl
theorem wc_X4_copy : Cond.code yX4_copy cX4_copy 7 (Option.some Jvm.ClassFile.FieldType.int) ∈ WL := WL_5 80 (by decide +kernel) rfl
theorem wm_L_132 : Cond.methodLink RL 132 yX4_lays ∈ WL := WL_5 81 (by decide +kernel) rfl
theorem wn_X4_lays : Cond.instanceMethod yX4_lays ∈ WL := WL_5 82 (by decide +kernel) rfl
theorem wl_X4_lays : Cond.selects RX4 yX4_lays yX4_lays ∈ WL := WL_5 83 (by decide +kernel) rfl
theorem wc_X4_lays : Cond.code yX4_lays cX4_lays 6 (Option.some Jvm.ClassFile.FieldType.int) ∈ WL := WL_5 84 (by decide +kernel) rfl
theorem wm_L_136 : Cond.methodLink RL 136 yX4_book ∈ WL := WL_5 85 (by decide +kernel) rfl
theorem wn_X4_book : Cond.instanceMethod yX4_book ∈ WL := WL_5 86 (by decide +kernel) rfl
theorem wl_X4_book : Cond.selects RX4 yX4_book yX4_book ∈ WL := WL_5 87 (by decide +kernel) rfl
theorem wc_X4_book : Cond.code yX4_book cX4_book 5 (Option.some Jvm.ClassFile.FieldType.int) ∈ WL := WL_5 88 (by decide +kernel) rfl
theorem wm_X4_331 : Cond.methodLink RX4 331 yX4_booked ∈ WL := WL_5 89 (by decide +kernel) rfl
theorem wn_X4_booked : Cond.instanceMethod yX4_booked ∈ WL := WL_5 91 (by decide +kernel) rfl
theorem wc_X4_booked : Cond.code yX4_booked cX4_booked 2 (Option.some Jvm.ClassFile.FieldType.int) ∈ WL := WL_5 92 (by decide +kernel) rfl
theorem wm_L_140 : Cond.methodLink RL 140 yX4_read ∈ WL := WL_5 93 (by decide +kernel) rfl
theorem wn_X4_read : Cond.instanceMethod yX4_read ∈ WL := WL_5 94 (by decide +kernel) rfl
theorem wl_X4_read : Cond.selects RX4 yX4_read yX4_read ∈ WL := WL_5 95 (by decide +kernel) rfl
theorem wc_X4_read : Cond.code yX4_read cX4_read 6 (Option.some Jvm.ClassFile.FieldType.int) ∈ WL := WL_5 96 (by decide +kernel) rfl
theorem wm_X4_334 : Cond.methodLink RX4 334 yX4_isBook ∈ WL := WL_5 97 (by decide +kernel) rfl
theorem wn_X4_isBook : Cond.instanceMethod yX4_isBook ∈ WL := WL_5 99 (by decide +kernel) rfl
theorem wc_X4_isBook : Cond.code yX4_isBook cX4_isBook 4 (Option.some Jvm.ClassFile.FieldType.boolean) ∈ WL := WL_5 100 (by decide +kernel) rfl
theorem wm_L_144 : Cond.methodLink RL 144 yX4_image ∈ WL := WL_5 101 (by decide +kernel) rfl
theorem wn_X4_image : Cond.instanceMethod yX4_image ∈ WL := WL_5 102 (by decide +kernel) rfl
theorem wl_X4_image : Cond.selects RX4 yX4_image yX4_image ∈ WL := WL_5 103 (by decide +kernel) rfl
theorem wc_X4_image : Cond.code yX4_image cX4_image 2 (Option.some Jvm.ClassFile.FieldType.int) ∈ WL := WL_5 104 (by decide +kernel) rfl
theorem wm_L_148 : Cond.methodLink RL 148 yX4_undo ∈ WL := WL_5 105 (by decide +kernel) rfl
theorem wn_X4_undo : Cond.instanceMethod yX4_undo ∈ WL := WL_5 106 (by decide +kernel) rfl
theorem wl_X4_undo : Cond.selects RX4 yX4_undo yX4_undo ∈ WL := WL_5 107 (by decide +kernel) rfl
theorem wc_X4_undo : Cond.code yX4_undo cX4_undo 2 (Option.some Jvm.ClassFile.FieldType.int) ∈ WL := WL_5 108 (by decide +kernel) rfl
theorem wm_L_152 : Cond.methodLink RL 152 yX4_tear ∈ WL := WL_5 109 (by decide +kernel) rfl
theorem wn_X4_tear : Cond.instanceMethod yX4_tear ∈ WL := WL_5 110 (by decide +kernel) rfl
theorem wl_X4_tear : Cond.selects RX4 yX4_tear yX4_tear ∈ WL := WL_5 111 (by decide +kernel) rfl
theorem wc_X4_tear : Cond.code yX4_tear cX4_tear 2 (Option.some Jvm.ClassFile.FieldType.int) ∈ WL := WL_5 112 (by decide +kernel) rfl
theorem wm_L_156 : Cond.methodLink RL 156 yX4_count ∈ WL := WL_5 113 (by decide +kernel) rfl
theorem wn_X4_count : Cond.instanceMethod yX4_count ∈ WL := WL_5 114 (by decide +kernel) rfl
theorem wl_X4_count : Cond.selects RX4 yX4_count yX4_count ∈ WL := WL_5 115 (by decide +kernel) rfl
theorem wc_X4_count : Cond.code yX4_count cX4_count 2 (Option.some Jvm.ClassFile.FieldType.int) ∈ WL := WL_5 116 (by decide +kernel) rfl
theorem wm_L_160 : Cond.methodLink RL 160 yX4_status ∈ WL := WL_5 117 (by decide +kernel) rfl
theorem wn_X4_status : Cond.instanceMethod yX4_status ∈ WL := WL_5 118 (by decide +kernel) rfl
theorem wl_X4_status : Cond.selects RX4 yX4_status yX4_status ∈ WL := WL_5 119 (by decide +kernel) rfl
theorem wc_X4_status : Cond.code yX4_status cX4_status 4 (Option.some Jvm.ClassFile.FieldType.int) ∈ WL := WL_5 120 (by decide +kernel) rfl
theorem wq_X4_340 : Cond.constantLong RX4 340 (-1 : Int64) ∈ WL := WL_5 121 (by decide +kernel) rfl
theorem wq_X4_342 : Cond.constantLong RX4 342 (6 : Int64) ∈ WL := WL_5 122 (by decide +kernel) rfl
theorem wq_L_117 : Cond.constantLong RL 117 (4294967295 : Int64) ∈ WL := WL_5 123 (by decide +kernel) rfl
theorem wf_J0_9 : Cond.fieldLink RJ0 9 "java/lang/String" "value" "[B" ∈ WL := WL_5 124 (by decide +kernel) rfl
theorem wf_J0_15 : Cond.fieldLink RJ0 15 "java/lang/String" "coder" "B" ∈ WL := WL_5 125 (by decide +kernel) rfl
theorem wl_X3_finding : Cond.selects RX3 yX3_finding yX3_finding ∈ WL := WL_p1 (y := yX3_finding) (n := 8) 0 (by decide +kernel)
theorem wl_X0_isSeenByAnother : Cond.selects RX0 yX0_isSeenByAnother yX0_isSeenByAnother ∈ WL := WL_p1 (y := yX0_isSeenByAnother) (n := 4) 1 (by decide +kernel)
theorem wl_X0_isAnotherDiscontent : Cond.selects RX0 yX0_isAnotherDiscontent yX0_isAnotherDiscontent ∈ WL := WL_p1 (y := yX0_isAnotherDiscontent) (n := 4) 2 (by decide +kernel)
theorem wl_X3_greatest : Cond.selects RX3 yX3_greatest yX3_greatest ∈ WL := WL_p1 (y := yX3_greatest) (n := 8) 3 (by decide +kernel)
theorem wl_X0_haveAGo : Cond.selects RX0 yX0_haveAGo yX0_haveAGo ∈ WL := WL_p1 (y := yX0_haveAGo) (n := 4) 4 (by decide +kernel)
theorem wl_X0_isChangedBy : Cond.selects RX0 yX0_isChangedBy yX0_isChangedBy ∈ WL := WL_p1 (y := yX0_isChangedBy) (n := 4) 5 (by decide +kernel)
theorem wl_X0_replace : Cond.selects RX0 yX0_replace yX0_replace ∈ WL := WL_p1 (y := yX0_replace) (n := 4) 6 (by decide +kernel)
theorem wl_X0_nearer : Cond.selects RX0 yX0_nearer yX0_nearer ∈ WL := WL_p1 (y := yX0_nearer) (n := 4) 7 (by decide +kernel)
theorem wl_X0_farther : Cond.selects RX0 yX0_farther yX0_farther ∈ WL := WL_p1 (y := yX0_farther) (n := 4) 8 (by decide +kernel)
theorem wl_X3_firstContent : Cond.selects RX3 yX3_firstContent yX3_firstContent ∈ WL := WL_p1 (y := yX3_firstContent) (n := 8) 9 (by decide +kernel)
theorem wl_X3_suppose : Cond.selects RX3 yX3_suppose yX3_suppose ∈ WL := WL_p1 (y := yX3_suppose) (n := 8) 10 (by decide +kernel)
theorem wl_X3_mostContentWith : Cond.selects RX3 yX3_mostContentWith yX3_mostContentWith ∈ WL := WL_p1 (y := yX3_mostContentWith) (n := 8) 11 (by decide +kernel)
theorem wl_X3_gatherContentWith : Cond.selects RX3 yX3_gatherContentWith yX3_gatherContentWith ∈ WL := WL_p1 (y := yX3_gatherContentWith) (n := 8) 12 (by decide +kernel)
theorem wl_X3_wantsClash : Cond.selects RX3 yX3_wantsClash yX3_wantsClash ∈ WL := WL_p1 (y := yX3_wantsClash) (n := 8) 13 (by decide +kernel)
theorem wl_X2_advance : Cond.selects RX2 yX2_advance yX2_advance ∈ WL := WL_p1 (y := yX2_advance) (n := 7) 14 (by decide +kernel)
theorem wl_X2_byteAt : Cond.selects RX2 yX2_byteAt yX2_byteAt ∈ WL := WL_p1 (y := yX2_byteAt) (n := 7) 15 (by decide +kernel)
theorem wl_X2_isItem : Cond.selects RX2 yX2_isItem yX2_isItem ∈ WL := WL_p2 (y := yX2_isItem) (n := 7) 0 (by decide +kernel)
theorem wl_X2_kindNamed : Cond.selects RX2 yX2_kindNamed yX2_kindNamed ∈ WL := WL_p2 (y := yX2_kindNamed) (n := 7) 1 (by decide +kernel)
theorem wl_X2_isWord : Cond.selects RX2 yX2_isWord yX2_isWord ∈ WL := WL_p2 (y := yX2_isWord) (n := 7) 2 (by decide +kernel)
theorem wl_X2_isFigure : Cond.selects RX2 yX2_isFigure yX2_isFigure ∈ WL := WL_p2 (y := yX2_isFigure) (n := 7) 3 (by decide +kernel)
theorem wl_X2_takesNumber : Cond.selects RX2 yX2_takesNumber yX2_takesNumber ∈ WL := WL_p2 (y := yX2_takesNumber) (n := 7) 4 (by decide +kernel)
theorem wl_X2_isWanting : Cond.selects RX2 yX2_isWanting yX2_isWanting ∈ WL := WL_p2 (y := yX2_isWanting) (n := 7) 5 (by decide +kernel)
theorem wl_X2_wantNamed : Cond.selects RX2 yX2_wantNamed yX2_wantNamed ∈ WL := WL_p2 (y := yX2_wantNamed) (n := 7) 6 (by decide +kernel)
theorem wl_X2_isLetting : Cond.selects RX2 yX2_isLetting yX2_isLetting ∈ WL := WL_p2 (y := yX2_isLetting) (n := 7) 7 (by decide +kernel)
theorem wl_X3_sheetAt : Cond.selects RX3 yX3_sheetAt yX3_sheetAt ∈ WL := WL_p2 (y := yX3_sheetAt) (n := 8) 8 (by decide +kernel)
theorem wl_X1_lowest : Cond.selects RX1 yX1_lowest yX1_lowest ∈ WL := WL_p2 (y := yX1_lowest) (n := 3) 9 (by decide +kernel)
theorem wl_X3_trialGoesAs : Cond.selects RX3 yX3_trialGoesAs yX3_trialGoesAs ∈ WL := WL_p2 (y := yX3_trialGoesAs) (n := 8) 10 (by decide +kernel)
theorem wl_X4_becomes : Cond.selects RX4 yX4_becomes yX4_becomes ∈ WL := WL_p2 (y := yX4_becomes) (n := 17) 11 (by decide +kernel)
theorem wl_X4_finds : Cond.selects RX4 yX4_finds yX4_finds ∈ WL := WL_p2 (y := yX4_finds) (n := 17) 12 (by decide +kernel)
theorem wl_X4_ofNight : Cond.selects RX4 yX4_ofNight yX4_ofNight ∈ WL := WL_p2 (y := yX4_ofNight) (n := 17) 13 (by decide +kernel)
theorem wl_X4_isTacky : Cond.selects RX4 yX4_isTacky yX4_isTacky ∈ WL := WL_p2 (y := yX4_isTacky) (n := 17) 14 (by decide +kernel)
theorem wl_X4_content : Cond.selects RX4 yX4_content yX4_content ∈ WL := WL_p2 (y := yX4_content) (n := 17) 15 (by decide +kernel)
theorem wl_X4_isContent : Cond.selects RX4 yX4_isContent yX4_isContent ∈ WL := WL_p3 (y := yX4_isContent) (n := 17) 0 (by decide +kernel)
theorem wl_X4_its : Cond.selects RX4 yX4_its yX4_its ∈ WL := WL_p3 (y := yX4_its) (n := 17) 1 (by decide +kernel)
theorem wl_X4_isWithWhom : Cond.selects RX4 yX4_isWithWhom yX4_isWithWhom ∈ WL := WL_p3 (y := yX4_isWithWhom) (n := 17) 2 (by decide +kernel)
theorem wl_X4_isBeside : Cond.selects RX4 yX4_isBeside yX4_isBeside ∈ WL := WL_p3 (y := yX4_isBeside) (n := 17) 3 (by decide +kernel)
theorem wl_X4_apart : Cond.selects RX4 yX4_apart yX4_apart ∈ WL := WL_p3 (y := yX4_apart) (n := 17) 4 (by decide +kernel)
theorem wl_X4_waiting : Cond.selects RX4 yX4_waiting yX4_waiting ∈ WL := WL_p3 (y := yX4_waiting) (n := 17) 5 (by decide +kernel)
theorem wl_X4_isWaiting : Cond.selects RX4 yX4_isWaiting yX4_isWaiting ∈ WL := WL_p3 (y := yX4_isWaiting) (n := 17) 6 (by decide +kernel)
theorem wl_X4_lampsOn : Cond.selects RX4 yX4_lampsOn yX4_lampsOn ∈ WL := WL_p3 (y := yX4_lampsOn) (n := 17) 7 (by decide +kernel)
theorem wl_X4_isAnyOtherCross : Cond.selects RX4 yX4_isAnyOtherCross yX4_isAnyOtherCross ∈ WL := WL_p3 (y := yX4_isAnyOtherCross) (n := 17) 8 (by decide +kernel)
theorem wl_X4_seenOnes : Cond.selects RX4 yX4_seenOnes yX4_seenOnes ∈ WL := WL_p3 (y := yX4_seenOnes) (n := 17) 9 (by decide +kernel)
theorem wl_X4_outOnes : Cond.selects RX4 yX4_outOnes yX4_outOnes ∈ WL := WL_p3 (y := yX4_outOnes) (n := 17) 10 (by decide +kernel)
theorem wl_X4_together : Cond.selects RX4 yX4_together yX4_together ∈ WL := WL_p3 (y := yX4_together) (n := 17) 11 (by decide +kernel)
theorem wl_X4_adds : Cond.selects RX4 yX4_adds yX4_adds ∈ WL := WL_p3 (y := yX4_adds) (n := 17) 12 (by decide +kernel)
theorem wl_X4_isFigure : Cond.selects RX4 yX4_isFigure yX4_isFigure ∈ WL := WL_p3 (y := yX4_isFigure) (n := 17) 13 (by decide +kernel)
theorem wl_X4_rubsOf : Cond.selects RX4 yX4_rubsOf yX4_rubsOf ∈ WL := WL_p3 (y := yX4_rubsOf) (n := 17) 14 (by decide +kernel)
theorem wl_X4_beside : Cond.selects RX4 yX4_beside yX4_beside ∈ WL := WL_p3 (y := yX4_beside) (n := 17) 15 (by decide +kernel)
theorem wl_X4_isSet : Cond.selects RX4 yX4_isSet yX4_isSet ∈ WL := WL_p4 (y := yX4_isSet) (n := 17) 0 (by decide +kernel)
theorem wl_X4_hoursGo : Cond.selects RX4 yX4_hoursGo yX4_hoursGo ∈ WL := WL_p4 (y := yX4_hoursGo) (n := 17) 1 (by decide +kernel)
theorem wl_X4_hour : Cond.selects RX4 yX4_hour yX4_hour ∈ WL := WL_p4 (y := yX4_hour) (n := 17) 2 (by decide +kernel)
theorem wl_X4_works : Cond.selects RX4 yX4_works yX4_works ∈ WL := WL_p4 (y := yX4_works) (n := 17) 3 (by decide +kernel)
theorem wl_X4_columnBy : Cond.selects RX4 yX4_columnBy yX4_columnBy ∈ WL := WL_p4 (y := yX4_columnBy) (n := 17) 4 (by decide +kernel)
theorem wl_X4_behind : Cond.selects RX4 yX4_behind yX4_behind ∈ WL := WL_p4 (y := yX4_behind) (n := 17) 5 (by decide +kernel)
theorem wl_X4_laysAside : Cond.selects RX4 yX4_laysAside yX4_laysAside ∈ WL := WL_p4 (y := yX4_laysAside) (n := 17) 6 (by decide +kernel)
theorem wl_X4_takesBack : Cond.selects RX4 yX4_takesBack yX4_takesBack ∈ WL := WL_p4 (y := yX4_takesBack) (n := 17) 7 (by decide +kernel)
theorem wl_X4_toldAt : Cond.selects RX4 yX4_toldAt yX4_toldAt ∈ WL := WL_p4 (y := yX4_toldAt) (n := 17) 8 (by decide +kernel)
theorem wl_X4_contentMany : Cond.selects RX4 yX4_contentMany yX4_contentMany ∈ WL := WL_p4 (y := yX4_contentMany) (n := 17) 9 (by decide +kernel)
theorem wl_X4_manyBehind : Cond.selects RX4 yX4_manyBehind yX4_manyBehind ∈ WL := WL_p4 (y := yX4_manyBehind) (n := 17) 10 (by decide +kernel)
theorem wl_X4_mostBy : Cond.selects RX4 yX4_mostBy yX4_mostBy ∈ WL := WL_p4 (y := yX4_mostBy) (n := 17) 11 (by decide +kernel)
theorem wl_X4_isClash : Cond.selects RX4 yX4_isClash yX4_isClash ∈ WL := WL_p4 (y := yX4_isClash) (n := 17) 12 (by decide +kernel)
theorem wl_X4_saves : Cond.selects RX4 yX4_saves yX4_saves ∈ WL := WL_p4 (y := yX4_saves) (n := 17) 13 (by decide +kernel)
theorem wl_X4_token : Cond.selects RX4 yX4_token yX4_token ∈ WL := WL_p4 (y := yX4_token) (n := 17) 14 (by decide +kernel)
theorem wl_X4_byteAt : Cond.selects RX4 yX4_byteAt yX4_byteAt ∈ WL := WL_p4 (y := yX4_byteAt) (n := 17) 15 (by decide +kernel)
theorem wl_X4_item : Cond.selects RX4 yX4_item yX4_item ∈ WL := WL_p5 (y := yX4_item) (n := 17) 0 (by decide +kernel)
theorem wl_X4_kindHere : Cond.selects RX4 yX4_kindHere yX4_kindHere ∈ WL := WL_p5 (y := yX4_kindHere) (n := 17) 1 (by decide +kernel)
theorem wl_X4_word : Cond.selects RX4 yX4_word yX4_word ∈ WL := WL_p5 (y := yX4_word) (n := 17) 2 (by decide +kernel)
theorem wl_X4_figureItem : Cond.selects RX4 yX4_figureItem yX4_figureItem ∈ WL := WL_p5 (y := yX4_figureItem) (n := 17) 3 (by decide +kernel)
theorem wl_X4_must : Cond.selects RX4 yX4_must yX4_must ∈ WL := WL_p5 (y := yX4_must) (n := 17) 4 (by decide +kernel)
theorem wl_X4_number : Cond.selects RX4 yX4_number yX4_number ∈ WL := WL_p5 (y := yX4_number) (n := 17) 5 (by decide +kernel)
theorem wl_X4_wantsItem : Cond.selects RX4 yX4_wantsItem yX4_wantsItem ∈ WL := WL_p5 (y := yX4_wantsItem) (n := 17) 6 (by decide +kernel)
theorem wl_X4_wantHere : Cond.selects RX4 yX4_wantHere yX4_wantHere ∈ WL := WL_p5 (y := yX4_wantHere) (n := 17) 7 (by decide +kernel)
theorem wl_X4_outItem : Cond.selects RX4 yX4_outItem yX4_outItem ∈ WL := WL_p5 (y := yX4_outItem) (n := 17) 8 (by decide +kernel)
theorem wl_X4_tackyItem : Cond.selects RX4 yX4_tackyItem yX4_tackyItem ∈ WL := WL_p5 (y := yX4_tackyItem) (n := 17) 9 (by decide +kernel)
theorem wl_X4_putsBack : Cond.selects RX4 yX4_putsBack yX4_putsBack ∈ WL := WL_p5 (y := yX4_putsBack) (n := 17) 10 (by decide +kernel)
theorem wl_X4_wrongSheet : Cond.selects RX4 yX4_wrongSheet yX4_wrongSheet ∈ WL := WL_p5 (y := yX4_wrongSheet) (n := 17) 11 (by decide +kernel)
theorem wl_X4_booked : Cond.selects RX4 yX4_booked yX4_booked ∈ WL := WL_p5 (y := yX4_booked) (n := 17) 12 (by decide +kernel)
theorem wl_X4_isBook : Cond.selects RX4 yX4_isBook yX4_isBook ∈ WL := WL_p5 (y := yX4_isBook) (n := 17) 13 (by decide +kernel)
theorem wx_X0 : ∀ w ∈ wsX00, w ∈ WL := WL_cons wy_X0_hour (WL_cons wy_X0_tackyFrom (WL_cons wy_X0_figures (WL_cons wy_X0_cells ((fun _ h => absurd h List.not_mem_nil)))))
theorem wx_X1 : ∀ w ∈ wsX10, w ∈ WL := WL_cons wy_X1_bits (WL_cons wy_X1_length (WL_cons wy_X1_numbers ((fun _ h => absurd h List.not_mem_nil))))
theorem wx_X2 : ∀ w ∈ wsX20, w ∈ WL := WL_cons wy_X2_length (WL_cons wy_X2_bytes (WL_cons wy_X2_token (WL_cons wy_X2_begin (WL_cons wy_X2_end (WL_cons wy_X2_value (WL_cons wy_X2_taken ((fun _ h => absurd h List.not_mem_nil))))))))
theorem wx_X3 : ∀ w ∈ wsX30, w ∈ WL := WL_cons wy_X3_gallery (WL_cons wy_X3_trial (WL_cons wy_X3_kept (WL_cons wy_X3_isKept (WL_cons wy_X3_teller (WL_cons wy_X3_sheets (WL_cons wy_X3_findings (WL_cons wy_X3_contentWith ((fun _ h => absurd h List.not_mem_nil)))))))))
theorem wx_X4 : ∀ w ∈ wsX40, w ∈ WL := WL_cons wy_X4_s (WL_cons wy_X4_keptS (WL_cons wy_X4_other (WL_cons wy_X4_aside (WL_cons wy_X4_statuses (WL_cons wy_X4_isKept (WL_cons wy_X4_contentAt (WL_cons wy_X4_tape (WL_cons wy_X4_taped (WL_cons wy_X4_from (WL_cons wy_X4_to (WL_cons wy_X4_value (WL_cons wy_X4_isWrong (WL_cons wy_X4_bitsOf (WL_cons wy_X4_sizeOf (WL_cons wy_X4_numbers (WL_cons wy_X4_moved ((fun _ h => absurd h List.not_mem_nil))))))))))))))))))
end
section
/-! contracts over a world of fixed cells, and the rows that call by them -/
theorem va_D.addr {A : Nat → Prop} {ws ws' : va_W} (h : va_D A ws) (e : ws'.map (fun q => q.1) = ws.map (fun q => q.1)) : va_D A ws' := by
  have key : ∀ (k : Nat) (q : Nat × va_E), ws'[k]? = some q → ∃ q0, ws[k]? = some q0 ∧ q0.1 = q.1 := by
    intro k q hk
    have h1 : (ws'.map (fun q => q.1))[k]? = some q.1 := by rw [List.getElem?_map, hk]; rfl
    rw [e, List.getElem?_map] at h1
    cases hq : ws[k]? with
    | none => rw [hq] at h1; cases h1
    | some q0 => rw [hq] at h1; exact ⟨q0, rfl, Option.some.inj h1⟩
  refine ⟨fun i j x y hi hj hxy => ?_, fun k q hk => ?_⟩
  · obtain ⟨x0, h1, h2⟩ := key i x hi
    obtain ⟨y0, h3, h4⟩ := key j y hj
    exact h.1 i j x0 y0 h1 h3 (h2.trans (hxy.trans h4.symm))
  · obtain ⟨q0, h1, h2⟩ := key k q hk
    rw [← h2]
    exact h.2 k q0 h1
/-- cells at places become others -/
def wSet : va_W → List Nat → va_W → va_W
  | ws, i :: is, e :: w => wSet (ws.set i e) is w
  | ws, _, _ => ws
theorem wSet_get : ∀ (is : List Nat) (w ws : va_W) (k : Nat) (q : Nat × va_E), is.length = w.length → (wSet ws is w)[k]? = some q → q ∈ w ∨ (k ∉ is ∧ ws[k]? = some q)
  | [], w, ws, k, q, _, h => by
    right
    refine ⟨List.not_mem_nil, ?_⟩
    cases w <;> exact h
  | i :: is, [], ws, k, q, hl, h => by cases hl
  | i :: is, e :: w, ws, k, q, hl, h => by
    rcases wSet_get is w (ws.set i e) k q (Nat.succ.inj hl) h with h1 | ⟨h1, h2⟩
    · exact Or.inl (List.mem_cons_of_mem _ h1)
    · by_cases hk : k = i
      · subst hk
        rw [List.getElem?_set] at h2
        split at h2
        · split at h2
          · cases h2
            exact Or.inl List.mem_cons_self
          · cases h2
        · exact absurd rfl (by assumption)
      · rw [List.getElem?_set_ne (Ne.symm hk)] at h2
        exact Or.inr ⟨fun hm => (List.mem_cons.mp hm).elim hk h1, h2⟩
theorem set_self_of {α : Type} : ∀ (l : List α) (i : Nat) (x : α), l[i]? = some x → l.set i x = l
  | [], i, x, h => by simp at h
  | a :: l, 0, x, h => by simp at h; subst h; rfl
  | a :: l, i + 1, x, h => by
    rw [List.getElem?_cons_succ] at h
    rw [List.set_cons_succ, set_self_of l i x h]
theorem wSet_addr : ∀ (is : List Nat) (w ws wc : va_W), is.map (fun i => ws[i]?) = wc.map some → w.map (fun q => q.1) = wc.map (fun q => q.1) → (∀ A : Nat → Prop, va_D A ws → True) → (wSet ws is w).map (fun q => q.1) = ws.map (fun q => q.1) := by
  have gen : ∀ (is : List Nat) (w ws : va_W), (∀ (j i : Nat) (e : Nat × va_E), is[j]? = some i → w[j]? = some e → (ws.map (fun q => q.1))[i]? = some e.1) → (wSet ws is w).map (fun q => q.1) = ws.map (fun q => q.1) := by
    intro is
    induction is with
    | nil => intro w ws _; cases w <;> rfl
    | cons i is ih =>
      intro w ws h
      cases w with
      | nil => rfl
      | cons e w =>
        have h0 := h 0 i e rfl rfl
        have hs : (ws.set i e).map (fun q => q.1) = ws.map (fun q => q.1) := by
          rw [List.map_set]
          exact set_self_of _ _ _ h0
        show (wSet (ws.set i e) is w).map (fun q => q.1) = _
        rw [ih w (ws.set i e) (fun j i' e' h1 h2 => by rw [hs]; exact h (j + 1) i' e' h1 h2), hs]
  intro is w ws wc hC ha _
  refine gen is w ws (fun j i e h1 h2 => ?_)
  have h3 : (wc.map (fun q => q.1))[j]? = some e.1 := by rw [← ha, List.getElem?_map, h2]; rfl
  rw [List.getElem?_map] at h3
  cases hq : wc[j]? with
  | none => rw [hq] at h3; cases h3
  | some q =>
    rw [hq] at h3
    have h4 : (is.map (fun i => ws[i]?))[j]? = some (some q) := by rw [hC, List.getElem?_map, hq]; rfl
    rw [List.getElem?_map, h1] at h4
    have h5 : ws[i]? = some q := Option.some.inj h4
    rw [List.getElem?_map, h5]
    exact h3
theorem wSet_P {A : Nat → Prop} {D : va_G} {cl : List vw_C} {ws wc w : va_W} {H H1 : Heap} (hP : va_P D cl ws H) (hD : va_D A ws) (is : List Nat) (hC : is.map (fun i => ws[i]?) = wc.map some) (ha : w.map (fun q => q.1) = wc.map (fun q => q.1))
    (hk : ∀ q : Nat, q < H.size → ¬ q ∈ wc.map (fun q => q.1) → H1[q]? = H[q]?) (hP1 : va_P D cl w H1) : va_P D cl (wSet ws is w) H1 ∧ va_D A (wSet ws is w) := by
  have hlen : is.length = w.length := by
    have h1 := congrArg List.length hC
    have h2 := congrArg List.length ha
    simp at h1 h2
    omega
  refine ⟨fun k q hq => ?_, hD.addr (wSet_addr is w ws wc hC ha (fun _ _ => trivial))⟩
  rcases wSet_get is w ws k q hlen hq with h | ⟨h1, h2⟩
  · obtain ⟨j, hj⟩ := List.getElem?_of_mem h
    exact hP1 j q hj
  · have h0 := hP k q h2
    refine h0.kept (hk q.1 h0.lt (fun hm => ?_))
    obtain ⟨q2, hm2, he⟩ := List.mem_map.mp hm
    obtain ⟨j, hj⟩ := List.getElem?_of_mem hm2
    have h4 : (is.map (fun i => ws[i]?))[j]? = some (some q2) := by rw [hC, List.getElem?_map, hj]; rfl
    rw [List.getElem?_map] at h4
    cases hi : is[j]? with
    | none => rw [hi] at h4; cases h4
    | some i =>
      rw [hi] at h4
      have h5 : ws[i]? = some q2 := Option.some.inj h4
      have h6 := hD.1 i k q2 q h5 h2 he
      subst h6
      exact h1 (List.mem_of_getElem? hi)
theorem arrV_congr {cA : ClassId} {n : Nat} {f g : Nat → Value} (h : ∀ j, j < n → f j = g j) : arrV cA n f = arrV cA n g := by
  unfold arrV
  congr 1
  refine congrArg _ (funext fun j => h j.val j.isLt)
/-- an array's row may be any that is the same within its length -/
theorem va_P.fi {D : va_G} {cl : List vw_C} {ws : va_W} {H : Heap} (h : va_P D cl ws H) (k : Nat) {a : Nat} {cA : ClassId} {n : Nat} {f : Nat → Int32} (g : Nat → Int32) (hk : ws[k]? = some (a, .inl (cA, n, .inl f))) (hg : ∀ j, j < n → f j = g j) : va_P D cl (ws.set k (a, .inl (cA, n, .inl g))) H := by
  intro i q hi
  rw [List.getElem?_set] at hi
  split at hi
  · split at hi
    · cases hi
      have h1 := h k _ hk
      show H[a]? = some (vp_cell cA (n, .inl g))
      rw [vp_cell_i, arrV_congr (g := fun j => .int (f j)) (fun j hj => by rw [hg j hj]), ← vp_cell_i]
      exact h1
    · cases hi
  · exact h i q hi
theorem va_P.fl {D : va_G} {cl : List vw_C} {ws : va_W} {H : Heap} (h : va_P D cl ws H) (k : Nat) {a : Nat} {cA : ClassId} {n : Nat} {f : Nat → Int64} (g : Nat → Int64) (hk : ws[k]? = some (a, .inl (cA, n, .inr (.inl f)))) (hg : ∀ j, j < n → f j = g j) : va_P D cl (ws.set k (a, .inl (cA, n, .inr (.inl g)))) H := by
  intro i q hi
  rw [List.getElem?_set] at hi
  split at hi
  · split at hi
    · cases hi
      have h1 := h k _ hk
      show H[a]? = some (vp_cell cA (n, .inr (.inl g)))
      rw [vp_cell_l, arrV_congr (g := fun j => .long (f j)) (fun j hj => by rw [hg j hj]), ← vp_cell_l]
      exact h1
    · cases hi
  · exact h i q hi
def b2i (b : Bool) : Int32 := if b then 1 else 0
theorem b2i_t : b2i true = 1 := rfl
theorem b2i_f : b2i false = 0 := rfl
theorem b2i_0 (b : Bool) : b2i b = 0 ↔ b = false := by cases b <;> decide
theorem b2i_1 (b : Bool) : b2i b = 1 ↔ b = true := by cases b <;> decide
theorem b2i_n (b : Bool) : narrow .boolean (.int (b2i b)) = .int (b2i b) := by cases b <;> rfl
theorem b2i_fit (b : Bool) : fits .boolean (.int (b2i b)) = true := by cases b <;> rfl
theorem b2i_if (b : Bool) : (if b = true then (1 : Int32) else 0) = b2i b := rfl
/-- a method that reads alone: it answers v, the heap stays -/
def RO (l : Launch) (D : va_G) (ty : List (ClassId × FieldType)) (y : MethodName) (b : ByteArray) (n : Nat) (r : Option FieldType) (fr lo : Nat) (av : List Value) (w : va_W) (v : Value) : Prop :=
  Met l y (wC y b n r) { frames := fr, cells := 0, slots := 0, locals := lo } (va_Pc av (fun U => va_P D vwCl w U.heap ∧ va_K D vwCl ty U)) (fun _ st o t => o = .returned (some v) ∧ t.heap = st.heap) 0 0 (fun _ => False)
/-- a method that writes within its world alone -/
def MU (l : Launch) (D : va_G) (ty : List (ClassId × FieldType)) (y : MethodName) (b : ByteArray) (n : Nat) (r : Option FieldType) (fr lo : Nat) (av : List Value) (w : va_W) (post : Option Value → va_W → Prop) : Prop :=
  Met l y (wC y b n r) { frames := fr, cells := 0, slots := 0, locals := lo } (va_Pc av (fun U => va_P D vwCl w U.heap ∧ va_K D vwCl ty U ∧ va_D (fun _ => True) w))
    (fun _ st o t => ∃ (ov : Option Value) (w' : va_W), o = .returned ov ∧ post ov w' ∧ w'.map (fun q => q.1) = w.map (fun q => q.1) ∧ va_P D vwCl w' t.heap ∧ va_F (fun q => q ∈ w.map (fun q => q.1)) st t) 0 0 (fun q => q ∈ w.map (fun q => q.1))
section CALLS
variable {p : Program} {l : Launch} {e : Env} {R : Room} {s : State} {m : MethodId} {args : Array Value} {below : List Frame} {meth : Method} {c : Code} {H : Heap} {locs : List Loc} {cells slots : Nat} {Q : State → Prop}
variable {cc b : ByteArray} {pc nL n ix fr lo : Nat} {ls : Array Slot} {As rest st0 : List Value} {D : va_G} {ty : List (ClassId × FieldType)} {own : String} {y : MethodName} {ret : Option FieldType} {w ws : va_W} {v : Value} {a : Nat}
theorem ro_blind {av : List Value} : FrameBlind (va_Pc av (fun U => va_P D vwCl w U.heap ∧ va_K D vwCl ty U)) := fun a U g mk q => ⟨q.1, q.2.1, va_K.moved (u := U) (U := U.calling g mk a) (Vm.Alike.refl U.vm) q.2.2⟩
theorem mu_blind {av : List Value} : FrameBlind (va_Pc av (fun U => va_P D vwCl w U.heap ∧ va_K D vwCl ty U ∧ va_D (fun _ => True) w)) := fun a U g mk q => ⟨q.1, q.2.1, va_K.moved (u := U) (U := U.calling g mk a) (Vm.Alike.refl U.vm) q.2.2.1, q.2.2.2⟩
theorem ro_go {Qa : State → Outcome → State → Prop} (hr : va_Run p l e R s m args below meth c H locs cells slots 0 0 (F0 m pc ls st0) rest (fun st o t => o = .returned (some v) ∧ t.heap = st.heap) (fun _ => False))
    (kk : W p l e R s m args below meth c H locs cells slots Q (F0 m (pc + 3) ls (v :: rest))) : W p l e R s m args below meth c H locs cells slots Q (F0 m pc ls st0) := by
  intro T hT X
  obtain ⟨v', st₀, t, T', L, h0, X', hL, e1, e2, ⟨hv, hh⟩, st⟩ := hr T hT X
  cases hv
  have hL0 : L = [] := by
    cases L with
    | nil => rfl
    | cons q L => exact (hL q List.mem_cons_self).elim
  subst hL0
  rw [List.append_nil] at X'
  obtain ⟨t2, a1, b1⟩ := kk T' (by rw [e1, hh, h0]) X'
  exact ⟨t2, st t2 a1, b1⟩
/-- a call of a reading method of an object -/
theorem ro_V (S : CallFix p m c cc nL s args WL own) (hK : va_K D vwCl ty s) (hP : va_P D vwCl ws H) (hM : RO l D ty y b n ret fr lo (.ref a :: As) w v) (hG : GoodIn WL (wsV own ix y.cls y (wC y b n ret)))
    (hd : y.cls = y.cls ∧ y.cls ≠ "java/lang/invoke/MethodHandle" ∧ y.cls ≠ "java/lang/invoke/VarHandle" ∧ (parseMethodDescriptor y.desc).map (fun d => d.parameters.length) = some As.length) (hR : fr + 1 ≤ R.frames ∧ 8 + (n + 11) + lo ≤ R.locals)
    (is : List Nat) (hw : is.filterMap (fun i => ws[i]?) = w) (q0 ci : Nat) {q : vw_C} {fs : List Value} (hc : vwCl[ci]? = some q) (hq : q.1 = y.cls) (he : ws[q0]? = some (a, .inr (ci, fs)))
    (hst : st0 = As.reverse ++ .ref a :: rest) (hsz : ls.size = nL) (hW : 2 * (F0 m pc ls st0).monitorRoom + (rest.map fun v => v.category).sum ≤ 8) (hdg : decode cc pc = .ok (.invokevirtual ix, 3)) (hf : cells ≤ R.cells ∧ slots ≤ R.slots)
    (kk : W p l e R s m args below meth c H locs cells slots Q (F0 m (pc + 3) ls (v :: rest))) : W p l e R s m args below meth c H locs cells slots Q (F0 m pc ls st0) :=
  ro_go (Qa := fun _ _ _ => True) (va_runV S hM (cwV (C := y.cls) As.length S.2.2.2.2 hG rfl rfl rfl hd hR) ⟨ro_blind, by obtain ⟨cell, g1, g2, g3⟩ := va_recv hK hP hc he; exact ⟨cell, g1, g2, by rw [← hq]; exact g3⟩, fun U hU hW => ⟨rfl, by rw [hU]; exact hP.sub is hw, va_K.moved hW.alike hK⟩⟩ rfl rfl hsz hst hW hdg hf) kk
/-- a call of a static method that reads alone -/
theorem ro_S (S : CallFix p m c cc nL s args WL own) (hK : va_K D vwCl ty s) (hP : va_P D vwCl ws H) (hM : RO l D ty y b n ret fr lo As w v) (hG : GoodIn WL (va_wsS own ix y (wC y b n ret)))
    (hd : y.cls ≠ "java/lang/invoke/MethodHandle" ∧ y.cls ≠ "java/lang/invoke/VarHandle" ∧ (parseMethodDescriptor y.desc).map (fun d => d.parameters.length) = some As.length) (hR : fr + 1 ≤ R.frames ∧ 8 + (n + 11) + lo ≤ R.locals)
    (is : List Nat) (hw : is.filterMap (fun i => ws[i]?) = w)
    (hst : st0 = As.reverse ++ rest) (hsz : ls.size = nL) (hW : 2 * (F0 m pc ls st0).monitorRoom + (rest.map fun v => v.category).sum ≤ 8) (hdg : decode cc pc = .ok (.invokestatic ix, 3)) (hf : cells ≤ R.cells ∧ slots ≤ R.slots)
    (kk : W p l e R s m args below meth c H locs cells slots Q (F0 m (pc + 3) ls (v :: rest))) : W p l e R s m args below meth c H locs cells slots Q (F0 m pc ls st0) :=
  ro_go (Qa := fun _ _ _ => True) (va_runS S hM (va_cwS As.length S.2.2.2.2 hG rfl rfl rfl hd hR) ⟨ro_blind, fun U hU hW => ⟨rfl, by rw [hU]; exact hP.sub is hw, va_K.moved hW.alike hK⟩⟩ rfl rfl hsz hst hW hdg hf) kk
/-- a call of a writing method of an object -/
theorem mu_V {A : Nat → Prop} {H0 : Heap} {post : Option Value → va_W → Prop} (S : CallFix p m c cc nL s args WL own) (hK : va_K D vwCl ty s) (hP : va_P D vwCl ws H) (hD : va_D A ws) (hS : va_S A H0 H locs) (hM : MU l D ty y b n ret fr lo (.ref a :: As) w post) (hG : GoodIn WL (wsV own ix y.cls y (wC y b n ret)))
    (hd : y.cls = y.cls ∧ y.cls ≠ "java/lang/invoke/MethodHandle" ∧ y.cls ≠ "java/lang/invoke/VarHandle" ∧ (parseMethodDescriptor y.desc).map (fun d => d.parameters.length) = some As.length) (hR : fr + 1 ≤ R.frames ∧ 8 + (n + 11) + lo ≤ R.locals)
    (is : List Nat) (hn : va_nd is = true) (hw : is.map (fun i => ws[i]?) = w.map some) (q0 ci : Nat) {q : vw_C} {fs : List Value} (hc : vwCl[ci]? = some q) (hq : q.1 = y.cls) (he : ws[q0]? = some (a, .inr (ci, fs)))
    (hst : st0 = As.reverse ++ .ref a :: rest) (hsz : ls.size = nL) (hW : 2 * (F0 m pc ls st0).monitorRoom + (rest.map fun v => v.category).sum ≤ 8) (hdg : decode cc pc = .ok (.invokevirtual ix, 3)) (hf : cells ≤ R.cells ∧ slots ≤ R.slots)
    (kk : ∀ (ov : Option Value) (w' : va_W) (H1 : Heap) (locs1 : List Loc), post ov w' → va_P D vwCl (wSet ws is w') H1 → va_D A (wSet ws is w') → va_S A H0 H1 locs1 → W p l e R s m args below meth c H1 locs1 cells slots Q (F0 m (pc + 3) ls (ov.toList ++ rest))) : W p l e R s m args below meth c H locs cells slots Q (F0 m pc ls st0) := by
  have hDc : va_D A w := hD.sub is hn hw
  have hPc : va_P D vwCl w H := by
    intro k x hk
    have h1 : (is.map (fun i => ws[i]?))[k]? = some (some x) := by rw [hw, List.getElem?_map, hk]; rfl
    rw [List.getElem?_map] at h1
    cases hi : is[k]? with
    | none => rw [hi] at h1; cases h1
    | some i => rw [hi] at h1; exact hP i x (Option.some.inj h1)
  have hA : ∀ q, q ∈ w.map (fun q => q.1) → A q := by
    intro q hq
    obtain ⟨x, hx, rfl⟩ := List.mem_map.mp hq
    obtain ⟨k, hk⟩ := List.getElem?_of_mem hx
    exact hDc.2 k x hk
  have hr := va_runV (e := e) (below := below) (meth := meth) (locs := locs) (cells := cells) (slots := slots) (H := H) (g := F0 m pc ls st0) (rest := rest) S hM (cwV (C := y.cls) As.length S.2.2.2.2 hG rfl rfl rfl hd hR) ⟨mu_blind, by obtain ⟨cell, g1, g2, g3⟩ := va_recv hK hP hc he; exact ⟨cell, g1, g2, by rw [← hq]; exact g3⟩, fun U hU hW => ⟨rfl, by rw [hU]; exact hPc, va_K.moved hW.alike hK, hDc.weaken (fun _ _ _ _ => trivial)⟩⟩ rfl rfl hsz hst hW hdg hf
  intro T hT X
  obtain ⟨v', st₀, t, T', L, h0, X', hL, e1, e2, ⟨ov, w', hv, hp, ha, hP1, hz, hk⟩, st⟩ := hr T hT X
  cases hv
  rw [h0] at hz hk
  have hj := wSet_P (w := w') hP hD is hw ha hk hP1
  rw [← e1] at hj hz
  obtain ⟨t2, a1, b1⟩ := kk _ w' T'.heap (locs ++ L) hp hj.1 hj.2 ⟨Nat.le_trans hS.1 hz, fun q h1 h2 => by rw [e1, hk q (Nat.lt_of_lt_of_le h1 hS.1) (fun z => h2 (hA q z))]; exact hS.2.1 q h1 h2, fun q hq => by
      rcases List.mem_append.mp hq with h | h
      · exact hS.2.2 q h
      · exact hA _ (hL q h)⟩ T' rfl X'
  exact ⟨t2, st t2 a1, b1⟩
/-- the start of a reading method -/
theorem RO.mk {av : List Value} (hy : plainName y.cls = true) (hn : (lg_sl av).length ≤ n)
    (body : ∀ (p : Program) (e : Env) (s : State) (m : MethodId) (below : List Frame) (meth : Method) (c : Code) (ls : Array Slot), CallFix p m c b n s av.toArray WL y.cls → meth.sig.returnType = ret → meth.locks = false → va_P D vwCl w s.heap → va_K D vwCl ty s → lv_has ls n (lv_args 0 av) →
      W p l e { frames := fr, cells := 0, slots := 0, locals := lo } s m av.toArray below meth c s.heap [] 0 0 (MQ below (fun _ st o t => o = .returned (some v) ∧ t.heap = st.heap) av.toArray s 0 0 (fun _ => False)) (F0 m 0 ls [])) : RO l D ty y b n ret fr lo av w v := by
  refine Met.ofW (cc := b) (maxL := n) (ret := ret) hy rfl ?_
  intro p e s m args below meth c s₁ B hml hv
  obtain ⟨rfl, hP, hK⟩ := hv
  have hts := atoms_spec (ws := wC y b n ret) B.pre
  have hl := lv_entry av (n := n) hn
  rw [lg_entry_eq]
  exact body p e s m below meth c _ ⟨B.exec, B.bytes, hml, findClass_of_methodNamed B.named, fun w h => hts w (List.mem_cons_of_mem _ h)⟩ B.returns B.notSynchronized hP hK hl
/-- the start of a writing method -/
theorem MU.mk {av : List Value} {post : Option Value → va_W → Prop} (hy : plainName y.cls = true) (hn : (lg_sl av).length ≤ n)
    (body : ∀ (p : Program) (e : Env) (s : State) (m : MethodId) (below : List Frame) (meth : Method) (c : Code) (ls : Array Slot), CallFix p m c b n s av.toArray WL y.cls → meth.sig.returnType = ret → meth.locks = false → va_P D vwCl w s.heap → va_K D vwCl ty s → va_D (fun q => q ∈ w.map (fun q => q.1)) w → va_S (fun q => q ∈ w.map (fun q => q.1)) s.heap s.heap [] → lv_has ls n (lv_args 0 av) →
      W p l e { frames := fr, cells := 0, slots := 0, locals := lo } s m av.toArray below meth c s.heap [] 0 0 (MQ below (fun _ st o t => ∃ (ov : Option Value) (w' : va_W), o = .returned ov ∧ post ov w' ∧ w'.map (fun q => q.1) = w.map (fun q => q.1) ∧ va_P D vwCl w' t.heap ∧ va_F (fun q => q ∈ w.map (fun q => q.1)) st t) av.toArray s 0 0 (fun q => q ∈ w.map (fun q => q.1))) (F0 m 0 ls [])) : MU l D ty y b n ret fr lo av w post := by
  refine Met.ofW (cc := b) (maxL := n) (ret := ret) hy rfl ?_
  intro p e s m args below meth c s₁ B hml hv
  obtain ⟨rfl, hP, hK, hD⟩ := hv
  have hts := atoms_spec (ws := wC y b n ret) B.pre
  have hl := lv_entry av (n := n) hn
  rw [lg_entry_eq]
  exact body p e s m below meth c _ ⟨B.exec, B.bytes, hml, findClass_of_methodNamed B.named, fun w h => hts w (List.mem_cons_of_mem _ h)⟩ B.returns B.notSynchronized hP hK (hD.weaken (fun k q hk _ => List.mem_map.mpr ⟨q, List.mem_of_getElem? hk, rfl⟩)) va_S.rf hl
theorem ro_iret {r x : Int32} (hx : p.tables.exec = Jvm.exec) (hb : c.code = cc) (hr : meth.sig.returnType = some .int) (hlocks : meth.locks = false) (h : x = r) (hdg : decode cc pc = .ok (.ireturn, 1)) :
    W p l e R s m args below meth c s.heap [] cells slots (MQ below (fun _ st o t => o = .returned (some (.int r)) ∧ t.heap = st.heap) args s cells slots (fun _ => False)) (F0 m pc ls [.int x]) := by
  subst h
  exact W.iret hx hb hr (fun t ht hW => ⟨rfl, ht⟩) (fun q h => by cases h) hdg
theorem ro_zret {r : Bool} {x : Int32} (hx : p.tables.exec = Jvm.exec) (hb : c.code = cc) (hr : meth.sig.returnType = some .boolean) (hlocks : meth.locks = false) (h : x = b2i r) (hdg : decode cc pc = .ok (.ireturn, 1)) :
    W p l e R s m args below meth c s.heap [] cells slots (MQ below (fun _ st o t => o = .returned (some (.int (b2i r))) ∧ t.heap = st.heap) args s cells slots (fun _ => False)) (F0 m pc ls [.int x]) := by
  subst h
  exact W.zret hx hb hr (b2i_n r) (fun t ht hW => ⟨rfl, ht⟩) (fun q h => by cases h) hdg
theorem ro_lret {r x : Int64} (hx : p.tables.exec = Jvm.exec) (hb : c.code = cc) (hr : meth.sig.returnType = some .long) (hlocks : meth.locks = false) (h : x = r) (hdg : decode cc pc = .ok (.lreturn, 1)) :
    W p l e R s m args below meth c s.heap [] cells slots (MQ below (fun _ st o t => o = .returned (some (.long r)) ∧ t.heap = st.heap) args s cells slots (fun _ => False)) (F0 m pc ls [.long x]) := by
  subst h
  exact W.lret hx hb hr (fun t ht hW => ⟨rfl, ht⟩) (fun q h => by cases h) hdg
theorem mu_iret {post : Option Value → va_W → Prop} {x : Int32} (w' : va_W) (hx : p.tables.exec = Jvm.exec) (hb : c.code = cc) (hr : meth.sig.returnType = some .int) (hlocks : meth.locks = false) (hP : va_P D vwCl w' H) (hS : va_S (fun q => q ∈ w.map (fun q => q.1)) s.heap H locs) (ha : w'.map (fun q => q.1) = w.map (fun q => q.1)) (hp : post (some (.int x)) w') (hdg : decode cc pc = .ok (.ireturn, 1)) :
    W p l e R s m args below meth c H locs cells slots (MQ below (fun _ st o t => ∃ (ov : Option Value) (w' : va_W), o = .returned ov ∧ post ov w' ∧ w'.map (fun q => q.1) = w.map (fun q => q.1) ∧ va_P D vwCl w' t.heap ∧ va_F (fun q => q ∈ w.map (fun q => q.1)) st t) args s cells slots (fun q => q ∈ w.map (fun q => q.1))) (F0 m pc ls [.int x]) :=
  W.iret hx hb hr (fun t ht hW => ⟨_, w', rfl, hp, ha, by rw [ht]; exact hP, hS.F ht⟩) hS.2.2 hdg
theorem mu_zret {post : Option Value → va_W → Prop} {x : Int32} (r : Bool) (hxr : x = b2i r) (w' : va_W) (hx : p.tables.exec = Jvm.exec) (hb : c.code = cc) (hr : meth.sig.returnType = some .boolean) (hlocks : meth.locks = false) (hP : va_P D vwCl w' H) (hS : va_S (fun q => q ∈ w.map (fun q => q.1)) s.heap H locs) (ha : w'.map (fun q => q.1) = w.map (fun q => q.1)) (hp : post (some (.int (b2i r))) w') (hdg : decode cc pc = .ok (.ireturn, 1)) :
    W p l e R s m args below meth c H locs cells slots (MQ below (fun _ st o t => ∃ (ov : Option Value) (w' : va_W), o = .returned ov ∧ post ov w' ∧ w'.map (fun q => q.1) = w.map (fun q => q.1) ∧ va_P D vwCl w' t.heap ∧ va_F (fun q => q ∈ w.map (fun q => q.1)) st t) args s cells slots (fun q => q ∈ w.map (fun q => q.1))) (F0 m pc ls [.int x]) := by
  subst hxr
  exact W.zret hx hb hr (b2i_n r) (fun t ht hW => ⟨_, w', rfl, hp, ha, by rw [ht]; exact hP, hS.F ht⟩) hS.2.2 hdg
theorem mu_lret {post : Option Value → va_W → Prop} {x : Int64} (w' : va_W) (hx : p.tables.exec = Jvm.exec) (hb : c.code = cc) (hr : meth.sig.returnType = some .long) (hlocks : meth.locks = false) (hP : va_P D vwCl w' H) (hS : va_S (fun q => q ∈ w.map (fun q => q.1)) s.heap H locs) (ha : w'.map (fun q => q.1) = w.map (fun q => q.1)) (hp : post (some (.long x)) w') (hdg : decode cc pc = .ok (.lreturn, 1)) :
    W p l e R s m args below meth c H locs cells slots (MQ below (fun _ st o t => ∃ (ov : Option Value) (w' : va_W), o = .returned ov ∧ post ov w' ∧ w'.map (fun q => q.1) = w.map (fun q => q.1) ∧ va_P D vwCl w' t.heap ∧ va_F (fun q => q ∈ w.map (fun q => q.1)) st t) args s cells slots (fun q => q ∈ w.map (fun q => q.1))) (F0 m pc ls [.long x]) :=
  W.lret hx hb hr (fun t ht hW => ⟨_, w', rfl, hp, ha, by rw [ht]; exact hP, hS.F ht⟩) hS.2.2 hdg
theorem mu_vret {post : Option Value → va_W → Prop} (w' : va_W) (hx : p.tables.exec = Jvm.exec) (hb : c.code = cc) (hr : meth.sig.returnType = none) (hlocks : meth.locks = false) (hP : va_P D vwCl w' H) (hS : va_S (fun q => q ∈ w.map (fun q => q.1)) s.heap H locs) (ha : w'.map (fun q => q.1) = w.map (fun q => q.1)) (hp : post none w') (hdg : decode cc pc = .ok (.return_, 1)) :
    W p l e R s m args below meth c H locs cells slots (MQ below (fun _ st o t => ∃ (ov : Option Value) (w' : va_W), o = .returned ov ∧ post ov w' ∧ w'.map (fun q => q.1) = w.map (fun q => q.1) ∧ va_P D vwCl w' t.heap ∧ va_F (fun q => q ∈ w.map (fun q => q.1)) st t) args s cells slots (fun q => q ∈ w.map (fun q => q.1))) (F0 m pc ls []) :=
  W.vret hx hb hr (fun t ht hW => ⟨_, w', rfl, hp, ha, by rw [ht]; exact hP, hS.F ht⟩) hS.2.2 hdg
end CALLS
end
section
theorem gv_L_13 : GoodIn WL (wsV RL 13 yX3_tacky.cls yX3_tacky (wC yX3_tacky cX3_tacky 3 (Option.some Jvm.ClassFile.FieldType.int))) := WL_v wm_L_13 wn_X3_tacky wl_X3_tacky wi_X3 wc_X3_tacky
theorem hd_X3_tacky : yX3_tacky.cls = yX3_tacky.cls ∧ yX3_tacky.cls ≠ "java/lang/invoke/MethodHandle" ∧ yX3_tacky.cls ≠ "java/lang/invoke/VarHandle" ∧ (parseMethodDescriptor yX3_tacky.desc).map (fun d => d.parameters.length) = some 1 := by decide +kernel
theorem gs_X3_47 : GoodIn WL (va_wsS RX3 47 yX3_isOutside (wC yX3_isOutside cX3_isOutside 3 (Option.some Jvm.ClassFile.FieldType.boolean))) := WL_s wm_X3_47 wt_X3_isOutside wi_X3 wc_X3_isOutside
theorem hd_X3_isOutside : yX3_isOutside.cls ≠ "java/lang/invoke/MethodHandle" ∧ yX3_isOutside.cls ≠ "java/lang/invoke/VarHandle" ∧ (parseMethodDescriptor yX3_isOutside.desc).map (fun d => d.parameters.length) = some 3 := by decide +kernel
theorem gv_X3_52 : GoodIn WL (wsV RX3 52 yX3_finding.cls yX3_finding (wC yX3_finding cX3_finding 3 (Option.some Jvm.ClassFile.FieldType.int))) := WL_v wm_X3_52 wn_X3_finding wl_X3_finding wi_X3 wc_X3_finding
theorem hd_X3_finding : yX3_finding.cls = yX3_finding.cls ∧ yX3_finding.cls ≠ "java/lang/invoke/MethodHandle" ∧ yX3_finding.cls ≠ "java/lang/invoke/VarHandle" ∧ (parseMethodDescriptor yX3_finding.desc).map (fun d => d.parameters.length) = some 1 := by decide +kernel
theorem gv_L_18 : GoodIn WL (wsV RL 18 yX3_now.cls yX3_now (wC yX3_now cX3_now 2 (Option.some Jvm.ClassFile.FieldType.int))) := WL_v wm_L_18 wn_X3_now wl_X3_now wi_X3 wc_X3_now
theorem hd_X3_now : yX3_now.cls = yX3_now.cls ∧ yX3_now.cls ≠ "java/lang/invoke/MethodHandle" ∧ yX3_now.cls ≠ "java/lang/invoke/VarHandle" ∧ (parseMethodDescriptor yX3_now.desc).map (fun d => d.parameters.length) = some 1 := by decide +kernel
theorem gv_X3_63 : GoodIn WL (wsV RX3 63 yX0_hourOfNight.cls yX0_hourOfNight (wC yX0_hourOfNight cX0_hourOfNight 1 (Option.some Jvm.ClassFile.FieldType.int))) := WL_v wm_X3_63 wn_X0_hourOfNight wl_X0_hourOfNight wi_X0 wc_X0_hourOfNight
theorem hd_X0_hourOfNight : yX0_hourOfNight.cls = yX0_hourOfNight.cls ∧ yX0_hourOfNight.cls ≠ "java/lang/invoke/MethodHandle" ∧ yX0_hourOfNight.cls ≠ "java/lang/invoke/VarHandle" ∧ (parseMethodDescriptor yX0_hourOfNight.desc).map (fun d => d.parameters.length) = some 0 := by decide +kernel
theorem gv_X3_67 : GoodIn WL (wsV RX3 67 yX0_isTacky.cls yX0_isTacky (wC yX0_isTacky cX0_isTacky 1 (Option.some Jvm.ClassFile.FieldType.boolean))) := WL_v wm_X3_67 wn_X0_isTacky wl_X0_isTacky wi_X0 wc_X0_isTacky
theorem hd_X0_isTacky : yX0_isTacky.cls = yX0_isTacky.cls ∧ yX0_isTacky.cls ≠ "java/lang/invoke/MethodHandle" ∧ yX0_isTacky.cls ≠ "java/lang/invoke/VarHandle" ∧ (parseMethodDescriptor yX0_isTacky.desc).map (fun d => d.parameters.length) = some 0 := by decide +kernel
theorem gv_X0_35 : GoodIn WL (wsV RX0 35 yX0_hourOfNight.cls yX0_hourOfNight (wC yX0_hourOfNight cX0_hourOfNight 1 (Option.some Jvm.ClassFile.FieldType.int))) := WL_v wm_X0_35 wn_X0_hourOfNight wl_X0_hourOfNight wi_X0 wc_X0_hourOfNight
theorem gv_X3_71 : GoodIn WL (wsV RX3 71 yX0_whoIsContent.cls yX0_whoIsContent (wC yX0_whoIsContent cX0_whoIsContent 3 (Option.some Jvm.ClassFile.FieldType.int))) := WL_v wm_X3_71 wn_X0_whoIsContent wl_X0_whoIsContent wi_X0 wc_X0_whoIsContent
theorem hd_X0_whoIsContent : yX0_whoIsContent.cls = yX0_whoIsContent.cls ∧ yX0_whoIsContent.cls ≠ "java/lang/invoke/MethodHandle" ∧ yX0_whoIsContent.cls ≠ "java/lang/invoke/VarHandle" ∧ (parseMethodDescriptor yX0_whoIsContent.desc).map (fun d => d.parameters.length) = some 0 := by decide +kernel
theorem gv_X0_43 : GoodIn WL (wsV RX0 43 yX0_isContent.cls yX0_isContent (wC yX0_isContent cX0_isContent 5 (Option.some Jvm.ClassFile.FieldType.boolean))) := WL_v wm_X0_43 wn_X0_isContent wl_X0_isContent wi_X0 wc_X0_isContent
theorem hd_X0_isContent : yX0_isContent.cls = yX0_isContent.cls ∧ yX0_isContent.cls ≠ "java/lang/invoke/MethodHandle" ∧ yX0_isContent.cls ≠ "java/lang/invoke/VarHandle" ∧ (parseMethodDescriptor yX0_isContent.desc).map (fun d => d.parameters.length) = some 1 := by decide +kernel
theorem gv_X0_39 : GoodIn WL (wsV RX0 39 yX0_get.cls yX0_get (wC yX0_get cX0_get 4 (Option.some Jvm.ClassFile.FieldType.int))) := WL_v wm_X0_39 wn_X0_get wl_X0_get wi_X0 wc_X0_get
theorem hd_X0_get : yX0_get.cls = yX0_get.cls ∧ yX0_get.cls ≠ "java/lang/invoke/MethodHandle" ∧ yX0_get.cls ≠ "java/lang/invoke/VarHandle" ∧ (parseMethodDescriptor yX0_get.desc).map (fun d => d.parameters.length) = some 2 := by decide +kernel
theorem gv_X0_67 : GoodIn WL (wsV RX0 67 yX0_lacks.cls yX0_lacks (wC yX0_lacks cX0_lacks 2 (Option.some Jvm.ClassFile.FieldType.boolean))) := WL_v wm_X0_67 wn_X0_lacks wl_X0_lacks wi_X0 wc_X0_lacks
theorem hd_X0_lacks : yX0_lacks.cls = yX0_lacks.cls ∧ yX0_lacks.cls ≠ "java/lang/invoke/MethodHandle" ∧ yX0_lacks.cls ≠ "java/lang/invoke/VarHandle" ∧ (parseMethodDescriptor yX0_lacks.desc).map (fun d => d.parameters.length) = some 1 := by decide +kernel
theorem gs_X0_62 : GoodIn WL (va_wsS RX0 62 yJ9_abs_0f7a4 (wC yJ9_abs_0f7a4 cJ9_abs_0f7a4 1 (Option.some Jvm.ClassFile.FieldType.int))) := WL_s wm_X0_62 wt_J9_abs_0f7a4 wi_J9 wc_J9_abs_0f7a4
theorem hd_J9_abs_0f7a4 : yJ9_abs_0f7a4.cls ≠ "java/lang/invoke/MethodHandle" ∧ yJ9_abs_0f7a4.cls ≠ "java/lang/invoke/VarHandle" ∧ (parseMethodDescriptor yJ9_abs_0f7a4.desc).map (fun d => d.parameters.length) = some 1 := by decide +kernel
theorem gv_X3_74 : GoodIn WL (wsV RX3 74 yX0_whoIsWaiting.cls yX0_whoIsWaiting (wC yX0_whoIsWaiting cX0_whoIsWaiting 3 (Option.some Jvm.ClassFile.FieldType.int))) := WL_v wm_X3_74 wn_X0_whoIsWaiting wl_X0_whoIsWaiting wi_X0 wc_X0_whoIsWaiting
theorem hd_X0_whoIsWaiting : yX0_whoIsWaiting.cls = yX0_whoIsWaiting.cls ∧ yX0_whoIsWaiting.cls ≠ "java/lang/invoke/MethodHandle" ∧ yX0_whoIsWaiting.cls ≠ "java/lang/invoke/VarHandle" ∧ (parseMethodDescriptor yX0_whoIsWaiting.desc).map (fun d => d.parameters.length) = some 0 := by decide +kernel
theorem gv_X0_47 : GoodIn WL (wsV RX0 47 yX0_isWaiting.cls yX0_isWaiting (wC yX0_isWaiting cX0_isWaiting 2 (Option.some Jvm.ClassFile.FieldType.boolean))) := WL_v wm_X0_47 wn_X0_isWaiting wl_X0_isWaiting wi_X0 wc_X0_isWaiting
theorem hd_X0_isWaiting : yX0_isWaiting.cls = yX0_isWaiting.cls ∧ yX0_isWaiting.cls ≠ "java/lang/invoke/MethodHandle" ∧ yX0_isWaiting.cls ≠ "java/lang/invoke/VarHandle" ∧ (parseMethodDescriptor yX0_isWaiting.desc).map (fun d => d.parameters.length) = some 1 := by decide +kernel
theorem gv_X0_77 : GoodIn WL (wsV RX0 77 yX0_isSeenByAnother.cls yX0_isSeenByAnother (wC yX0_isSeenByAnother cX0_isSeenByAnother 2 (Option.some Jvm.ClassFile.FieldType.boolean))) := WL_v wm_X0_77 wn_X0_isSeenByAnother wl_X0_isSeenByAnother wi_X0 wc_X0_isSeenByAnother
theorem hd_X0_isSeenByAnother : yX0_isSeenByAnother.cls = yX0_isSeenByAnother.cls ∧ yX0_isSeenByAnother.cls ≠ "java/lang/invoke/MethodHandle" ∧ yX0_isSeenByAnother.cls ≠ "java/lang/invoke/VarHandle" ∧ (parseMethodDescriptor yX0_isSeenByAnother.desc).map (fun d => d.parameters.length) = some 1 := by decide +kernel
theorem gv_X0_50 : GoodIn WL (wsV RX0 50 yX0_lampsOn.cls yX0_lampsOn (wC yX0_lampsOn cX0_lampsOn 6 (Option.some Jvm.ClassFile.FieldType.int))) := WL_v wm_X0_50 wn_X0_lampsOn wl_X0_lampsOn wi_X0 wc_X0_lampsOn
theorem hd_X0_lampsOn : yX0_lampsOn.cls = yX0_lampsOn.cls ∧ yX0_lampsOn.cls ≠ "java/lang/invoke/MethodHandle" ∧ yX0_lampsOn.cls ≠ "java/lang/invoke/VarHandle" ∧ (parseMethodDescriptor yX0_lampsOn.desc).map (fun d => d.parameters.length) = some 1 := by decide +kernel
theorem gv_X0_80 : GoodIn WL (wsV RX0 80 yX0_isAnotherDiscontent.cls yX0_isAnotherDiscontent (wC yX0_isAnotherDiscontent cX0_isAnotherDiscontent 4 (Option.some Jvm.ClassFile.FieldType.boolean))) := WL_v wm_X0_80 wn_X0_isAnotherDiscontent wl_X0_isAnotherDiscontent wi_X0 wc_X0_isAnotherDiscontent
theorem hd_X0_isAnotherDiscontent : yX0_isAnotherDiscontent.cls = yX0_isAnotherDiscontent.cls ∧ yX0_isAnotherDiscontent.cls ≠ "java/lang/invoke/MethodHandle" ∧ yX0_isAnotherDiscontent.cls ≠ "java/lang/invoke/VarHandle" ∧ (parseMethodDescriptor yX0_isAnotherDiscontent.desc).map (fun d => d.parameters.length) = some 1 := by decide +kernel
theorem gv_X3_77 : GoodIn WL (wsV RX3 77 yX0_whoIsSeen.cls yX0_whoIsSeen (wC yX0_whoIsSeen cX0_whoIsSeen 3 (Option.some Jvm.ClassFile.FieldType.int))) := WL_v wm_X3_77 wn_X0_whoIsSeen wl_X0_whoIsSeen wi_X0 wc_X0_whoIsSeen
theorem hd_X0_whoIsSeen : yX0_whoIsSeen.cls = yX0_whoIsSeen.cls ∧ yX0_whoIsSeen.cls ≠ "java/lang/invoke/MethodHandle" ∧ yX0_whoIsSeen.cls ≠ "java/lang/invoke/VarHandle" ∧ (parseMethodDescriptor yX0_whoIsSeen.desc).map (fun d => d.parameters.length) = some 0 := by decide +kernel
theorem gv_X3_80 : GoodIn WL (wsV RX3 80 yX0_whoHas.cls yX0_whoHas (wC yX0_whoHas cX0_whoHas 5 (Option.some Jvm.ClassFile.FieldType.int))) := WL_v wm_X3_80 wn_X0_whoHas wl_X0_whoHas wi_X0 wc_X0_whoHas
theorem hd_X0_whoHas : yX0_whoHas.cls = yX0_whoHas.cls ∧ yX0_whoHas.cls ≠ "java/lang/invoke/MethodHandle" ∧ yX0_whoHas.cls ≠ "java/lang/invoke/VarHandle" ∧ (parseMethodDescriptor yX0_whoHas.desc).map (fun d => d.parameters.length) = some 2 := by decide +kernel
theorem gv_X3_84 : GoodIn WL (wsV RX3 84 yX0_sum.cls yX0_sum (wC yX0_sum cX0_sum 4 (Option.some Jvm.ClassFile.FieldType.int))) := WL_v wm_X3_84 wn_X0_sum wl_X0_sum wi_X0 wc_X0_sum
theorem hd_X0_sum : yX0_sum.cls = yX0_sum.cls ∧ yX0_sum.cls ≠ "java/lang/invoke/MethodHandle" ∧ yX0_sum.cls ≠ "java/lang/invoke/VarHandle" ∧ (parseMethodDescriptor yX0_sum.desc).map (fun d => d.parameters.length) = some 1 := by decide +kernel
theorem gv_L_22 : GoodIn WL (wsV RL 22 yX3_hangs.cls yX3_hangs (wC yX3_hangs cX3_hangs 2 (Option.some Jvm.ClassFile.FieldType.int))) := WL_v wm_L_22 wn_X3_hangs wl_X3_hangs wi_X3 wc_X3_hangs
theorem hd_X3_hangs : yX3_hangs.cls = yX3_hangs.cls ∧ yX3_hangs.cls ≠ "java/lang/invoke/MethodHandle" ∧ yX3_hangs.cls ≠ "java/lang/invoke/VarHandle" ∧ (parseMethodDescriptor yX3_hangs.desc).map (fun d => d.parameters.length) = some 1 := by decide +kernel
theorem gv_L_26 : GoodIn WL (wsV RL 26 yX3_figure.cls yX3_figure (wC yX3_figure cX3_figure 4 (Option.some Jvm.ClassFile.FieldType.int))) := WL_v wm_L_26 wn_X3_figure wl_X3_figure wi_X3 wc_X3_figure
theorem hd_X3_figure : yX3_figure.cls = yX3_figure.cls ∧ yX3_figure.cls ≠ "java/lang/invoke/MethodHandle" ∧ yX3_figure.cls ≠ "java/lang/invoke/VarHandle" ∧ (parseMethodDescriptor yX3_figure.desc).map (fun d => d.parameters.length) = some 3 := by decide +kernel
theorem gv_X3_87 : GoodIn WL (wsV RX3 87 yX0_isFull.cls yX0_isFull (wC yX0_isFull cX0_isFull 1 (Option.some Jvm.ClassFile.FieldType.boolean))) := WL_v wm_X3_87 wn_X0_isFull wl_X0_isFull wi_X0 wc_X0_isFull
theorem hd_X0_isFull : yX0_isFull.cls = yX0_isFull.cls ∧ yX0_isFull.cls ≠ "java/lang/invoke/MethodHandle" ∧ yX0_isFull.cls ≠ "java/lang/invoke/VarHandle" ∧ (parseMethodDescriptor yX0_isFull.desc).map (fun d => d.parameters.length) = some 0 := by decide +kernel
theorem gv_X3_91 : GoodIn WL (wsV RX3 91 yX0_hang.cls yX0_hang (wC yX0_hang cX0_hang 5 (Option.some Jvm.ClassFile.FieldType.int))) := WL_v wm_X3_91 wn_X0_hang wl_X0_hang wi_X0 wc_X0_hang
theorem hd_X0_hang : yX0_hang.cls = yX0_hang.cls ∧ yX0_hang.cls ≠ "java/lang/invoke/MethodHandle" ∧ yX0_hang.cls ≠ "java/lang/invoke/VarHandle" ∧ (parseMethodDescriptor yX0_hang.desc).map (fun d => d.parameters.length) = some 3 := by decide +kernel
theorem gv_X0_31 : GoodIn WL (wsV RX0 31 yX0_put.cls yX0_put (wC yX0_put cX0_put 5 (Option.none : Option Jvm.ClassFile.FieldType))) := WL_v wm_X0_31 wn_X0_put wl_X0_put wi_X0 wc_X0_put
theorem hd_X0_put : yX0_put.cls = yX0_put.cls ∧ yX0_put.cls ≠ "java/lang/invoke/MethodHandle" ∧ yX0_put.cls ≠ "java/lang/invoke/VarHandle" ∧ (parseMethodDescriptor yX0_put.desc).map (fun d => d.parameters.length) = some 3 := by decide +kernel
theorem gv_L_31 : GoodIn WL (wsV RL 31 yX3_of.cls yX3_of (wC yX3_of cX3_of 3 (Option.some Jvm.ClassFile.FieldType.int))) := WL_v wm_L_31 wn_X3_of wl_X3_of wi_X3 wc_X3_of
theorem hd_X3_of : yX3_of.cls = yX3_of.cls ∧ yX3_of.cls ≠ "java/lang/invoke/MethodHandle" ∧ yX3_of.cls ≠ "java/lang/invoke/VarHandle" ∧ (parseMethodDescriptor yX3_of.desc).map (fun d => d.parameters.length) = some 2 := by decide +kernel
theorem gv_X3_95 : GoodIn WL (wsV RX3 95 yX0_lacks.cls yX0_lacks (wC yX0_lacks cX0_lacks 2 (Option.some Jvm.ClassFile.FieldType.boolean))) := WL_v wm_X3_95 wn_X0_lacks wl_X0_lacks wi_X0 wc_X0_lacks
theorem gv_X3_99 : GoodIn WL (wsV RX3 99 yX0_rubs.cls yX0_rubs (wC yX0_rubs cX0_rubs 4 (Option.some Jvm.ClassFile.FieldType.int))) := WL_v wm_X3_99 wn_X0_rubs wl_X0_rubs wi_X0 wc_X0_rubs
theorem hd_X0_rubs : yX0_rubs.cls = yX0_rubs.cls ∧ yX0_rubs.cls ≠ "java/lang/invoke/MethodHandle" ∧ yX0_rubs.cls ≠ "java/lang/invoke/VarHandle" ∧ (parseMethodDescriptor yX0_rubs.desc).map (fun d => d.parameters.length) = some 1 := by decide +kernel
theorem gv_X0_70 : GoodIn WL (wsV RX0 70 yX0_isTacky.cls yX0_isTacky (wC yX0_isTacky cX0_isTacky 1 (Option.some Jvm.ClassFile.FieldType.boolean))) := WL_v wm_X0_70 wn_X0_isTacky wl_X0_isTacky wi_X0 wc_X0_isTacky
theorem gv_X0_74 : GoodIn WL (wsV RX0 74 yX0_whoHas.cls yX0_whoHas (wC yX0_whoHas cX0_whoHas 5 (Option.some Jvm.ClassFile.FieldType.int))) := WL_v wm_X0_74 wn_X0_whoHas wl_X0_whoHas wi_X0 wc_X0_whoHas
theorem gs_X0_57 : GoodIn WL (va_wsS RX0 57 yJ6_bitCount_0f7a4 (wC yJ6_bitCount_0f7a4 cJ6_bitCount_0f7a4 1 (Option.some Jvm.ClassFile.FieldType.int))) := WL_s wm_X0_57 wt_J6_bitCount_0f7a4 wi_J6 wc_J6_bitCount_0f7a4
theorem hd_J6_bitCount_0f7a4 : yJ6_bitCount_0f7a4.cls ≠ "java/lang/invoke/MethodHandle" ∧ yJ6_bitCount_0f7a4.cls ≠ "java/lang/invoke/VarHandle" ∧ (parseMethodDescriptor yJ6_bitCount_0f7a4.desc).map (fun d => d.parameters.length) = some 1 := by decide +kernel
theorem gv_X3_102 : GoodIn WL (wsV RX3 102 yX0_isWaiting.cls yX0_isWaiting (wC yX0_isWaiting cX0_isWaiting 2 (Option.some Jvm.ClassFile.FieldType.boolean))) := WL_v wm_X3_102 wn_X0_isWaiting wl_X0_isWaiting wi_X0 wc_X0_isWaiting
theorem gv_X3_105 : GoodIn WL (wsV RX3 105 yX0_isContent.cls yX0_isContent (wC yX0_isContent cX0_isContent 5 (Option.some Jvm.ClassFile.FieldType.boolean))) := WL_v wm_X3_105 wn_X0_isContent wl_X0_isContent wi_X0 wc_X0_isContent
theorem gv_X3_108 : GoodIn WL (wsV RX3 108 yX0_get.cls yX0_get (wC yX0_get cX0_get 4 (Option.some Jvm.ClassFile.FieldType.int))) := WL_v wm_X3_108 wn_X0_get wl_X0_get wi_X0 wc_X0_get
theorem gv_L_36 : GoodIn WL (wsV RL 36 yX3_set.cls yX3_set (wC yX3_set cX3_set 5 (Option.some Jvm.ClassFile.FieldType.int))) := WL_v wm_L_36 wn_X3_set wl_X3_set wi_X3 wc_X3_set
theorem hd_X3_set : yX3_set.cls = yX3_set.cls ∧ yX3_set.cls ≠ "java/lang/invoke/MethodHandle" ∧ yX3_set.cls ≠ "java/lang/invoke/VarHandle" ∧ (parseMethodDescriptor yX3_set.desc).map (fun d => d.parameters.length) = some 3 := by decide +kernel
theorem gs_X3_111 : GoodIn WL (va_wsS RX3 111 yX3_least (wC yX3_least cX3_least 1 (Option.some Jvm.ClassFile.FieldType.int))) := WL_s wm_X3_111 wt_X3_least wi_X3 wc_X3_least
theorem hd_X3_least : yX3_least.cls ≠ "java/lang/invoke/MethodHandle" ∧ yX3_least.cls ≠ "java/lang/invoke/VarHandle" ∧ (parseMethodDescriptor yX3_least.desc).map (fun d => d.parameters.length) = some 1 := by decide +kernel
theorem gv_X3_114 : GoodIn WL (wsV RX3 114 yX3_greatest.cls yX3_greatest (wC yX3_greatest cX3_greatest 2 (Option.some Jvm.ClassFile.FieldType.int))) := WL_v wm_X3_114 wn_X3_greatest wl_X3_greatest wi_X3 wc_X3_greatest
theorem hd_X3_greatest : yX3_greatest.cls = yX3_greatest.cls ∧ yX3_greatest.cls ≠ "java/lang/invoke/MethodHandle" ∧ yX3_greatest.cls ≠ "java/lang/invoke/VarHandle" ∧ (parseMethodDescriptor yX3_greatest.desc).map (fun d => d.parameters.length) = some 1 := by decide +kernel
theorem gv_X3_117 : GoodIn WL (wsV RX3 117 yX0_put.cls yX0_put (wC yX0_put cX0_put 5 (Option.none : Option Jvm.ClassFile.FieldType))) := WL_v wm_X3_117 wn_X0_put wl_X0_put wi_X0 wc_X0_put
theorem gv_L_40 : GoodIn WL (wsV RL 40 yX3_seen.cls yX3_seen (wC yX3_seen cX3_seen 2 (Option.some Jvm.ClassFile.FieldType.int))) := WL_v wm_L_40 wn_X3_seen wl_X3_seen wi_X3 wc_X3_seen
theorem hd_X3_seen : yX3_seen.cls = yX3_seen.cls ∧ yX3_seen.cls ≠ "java/lang/invoke/MethodHandle" ∧ yX3_seen.cls ≠ "java/lang/invoke/VarHandle" ∧ (parseMethodDescriptor yX3_seen.desc).map (fun d => d.parameters.length) = some 1 := by decide +kernel
theorem gv_X3_121 : GoodIn WL (wsV RX3 121 yX0_lampsOn.cls yX0_lampsOn (wC yX0_lampsOn cX0_lampsOn 6 (Option.some Jvm.ClassFile.FieldType.int))) := WL_v wm_X3_121 wn_X0_lampsOn wl_X0_lampsOn wi_X0 wc_X0_lampsOn
theorem gv_L_44 : GoodIn WL (wsV RL 44 yX3_turn.cls yX3_turn (wC yX3_turn cX3_turn 4 (Option.some Jvm.ClassFile.FieldType.int))) := WL_v wm_L_44 wn_X3_turn wl_X3_turn wi_X3 wc_X3_turn
theorem hd_X3_turn : yX3_turn.cls = yX3_turn.cls ∧ yX3_turn.cls ≠ "java/lang/invoke/MethodHandle" ∧ yX3_turn.cls ≠ "java/lang/invoke/VarHandle" ∧ (parseMethodDescriptor yX3_turn.desc).map (fun d => d.parameters.length) = some 2 := by decide +kernel
theorem gv_L_48 : GoodIn WL (wsV RL 48 yX3_as.cls yX3_as (wC yX3_as cX3_as 3 (Option.some Jvm.ClassFile.FieldType.int))) := WL_v wm_L_48 wn_X3_as wl_X3_as wi_X3 wc_X3_as
theorem hd_X3_as : yX3_as.cls = yX3_as.cls ∧ yX3_as.cls ≠ "java/lang/invoke/MethodHandle" ∧ yX3_as.cls ≠ "java/lang/invoke/VarHandle" ∧ (parseMethodDescriptor yX3_as.desc).map (fun d => d.parameters.length) = some 2 := by decide +kernel
theorem gs_X3_124 : GoodIn WL (va_wsS RX3 124 yX3_isUnder (wC yX3_isUnder cX3_isUnder 2 (Option.some Jvm.ClassFile.FieldType.boolean))) := WL_s wm_X3_124 wt_X3_isUnder wi_X3 wc_X3_isUnder
theorem hd_X3_isUnder : yX3_isUnder.cls ≠ "java/lang/invoke/MethodHandle" ∧ yX3_isUnder.cls ≠ "java/lang/invoke/VarHandle" ∧ (parseMethodDescriptor yX3_isUnder.desc).map (fun d => d.parameters.length) = some 2 := by decide +kernel
theorem gs_X3_219 : GoodIn WL (va_wsS RX3 219 yX3_kindAbove (wC yX3_kindAbove cX3_kindAbove 1 (Option.some Jvm.ClassFile.FieldType.int))) := WL_s wm_X3_219 wt_X3_kindAbove wi_X3 wc_X3_kindAbove
theorem hd_X3_kindAbove : yX3_kindAbove.cls ≠ "java/lang/invoke/MethodHandle" ∧ yX3_kindAbove.cls ≠ "java/lang/invoke/VarHandle" ∧ (parseMethodDescriptor yX3_kindAbove.desc).map (fun d => d.parameters.length) = some 1 := by decide +kernel
theorem gv_L_52 : GoodIn WL (wsV RL 52 yX3_hours.cls yX3_hours (wC yX3_hours cX3_hours 2 (Option.some Jvm.ClassFile.FieldType.int))) := WL_v wm_L_52 wn_X3_hours wl_X3_hours wi_X3 wc_X3_hours
theorem hd_X3_hours : yX3_hours.cls = yX3_hours.cls ∧ yX3_hours.cls ≠ "java/lang/invoke/MethodHandle" ∧ yX3_hours.cls ≠ "java/lang/invoke/VarHandle" ∧ (parseMethodDescriptor yX3_hours.desc).map (fun d => d.parameters.length) = some 1 := by decide +kernel
theorem gv_X3_131 : GoodIn WL (wsV RX3 131 yX0_pass.cls yX0_pass (wC yX0_pass cX0_pass 4 (Option.none : Option Jvm.ClassFile.FieldType))) := WL_v wm_X3_131 wn_X0_pass wl_X0_pass wi_X0 wc_X0_pass
theorem hd_X0_pass : yX0_pass.cls = yX0_pass.cls ∧ yX0_pass.cls ≠ "java/lang/invoke/MethodHandle" ∧ yX0_pass.cls ≠ "java/lang/invoke/VarHandle" ∧ (parseMethodDescriptor yX0_pass.desc).map (fun d => d.parameters.length) = some 1 := by decide +kernel
theorem gv_X0_83 : GoodIn WL (wsV RX0 83 yX0_haveAGo.cls yX0_haveAGo (wC yX0_haveAGo cX0_haveAGo 3 (Option.none : Option Jvm.ClassFile.FieldType))) := WL_v wm_X0_83 wn_X0_haveAGo wl_X0_haveAGo wi_X0 wc_X0_haveAGo
theorem hd_X0_haveAGo : yX0_haveAGo.cls = yX0_haveAGo.cls ∧ yX0_haveAGo.cls ≠ "java/lang/invoke/MethodHandle" ∧ yX0_haveAGo.cls ≠ "java/lang/invoke/VarHandle" ∧ (parseMethodDescriptor yX0_haveAGo.desc).map (fun d => d.parameters.length) = some 1 := by decide +kernel
theorem gv_X0_87 : GoodIn WL (wsV RX0 87 yX0_rubs.cls yX0_rubs (wC yX0_rubs cX0_rubs 4 (Option.some Jvm.ClassFile.FieldType.int))) := WL_v wm_X0_87 wn_X0_rubs wl_X0_rubs wi_X0 wc_X0_rubs
theorem gv_X0_90 : GoodIn WL (wsV RX0 90 yX0_isChangedBy.cls yX0_isChangedBy (wC yX0_isChangedBy cX0_isChangedBy 3 (Option.some Jvm.ClassFile.FieldType.boolean))) := WL_v wm_X0_90 wn_X0_isChangedBy wl_X0_isChangedBy wi_X0 wc_X0_isChangedBy
theorem hd_X0_isChangedBy : yX0_isChangedBy.cls = yX0_isChangedBy.cls ∧ yX0_isChangedBy.cls ≠ "java/lang/invoke/MethodHandle" ∧ yX0_isChangedBy.cls ≠ "java/lang/invoke/VarHandle" ∧ (parseMethodDescriptor yX0_isChangedBy.desc).map (fun d => d.parameters.length) = some 2 := by decide +kernel
theorem gs_X0_97 : GoodIn WL (va_wsS RX0 97 yJ9_max_7cf53 (wC yJ9_max_7cf53 cJ9_max_7cf53 2 (Option.some Jvm.ClassFile.FieldType.int))) := WL_s wm_X0_97 wt_J9_max_7cf53 wi_J9 wc_J9_max_7cf53
theorem hd_J9_max_7cf53 : yJ9_max_7cf53.cls ≠ "java/lang/invoke/MethodHandle" ∧ yJ9_max_7cf53.cls ≠ "java/lang/invoke/VarHandle" ∧ (parseMethodDescriptor yJ9_max_7cf53.desc).map (fun d => d.parameters.length) = some 2 := by decide +kernel
theorem gv_X0_100 : GoodIn WL (wsV RX0 100 yX0_replace.cls yX0_replace (wC yX0_replace cX0_replace 5 (Option.some Jvm.ClassFile.FieldType.boolean))) := WL_v wm_X0_100 wn_X0_replace wl_X0_replace wi_X0 wc_X0_replace
theorem hd_X0_replace : yX0_replace.cls = yX0_replace.cls ∧ yX0_replace.cls ≠ "java/lang/invoke/MethodHandle" ∧ yX0_replace.cls ≠ "java/lang/invoke/VarHandle" ∧ (parseMethodDescriptor yX0_replace.desc).map (fun d => d.parameters.length) = some 3 := by decide +kernel
theorem gv_X0_104 : GoodIn WL (wsV RX0 104 yX0_nearer.cls yX0_nearer (wC yX0_nearer cX0_nearer 5 (Option.some Jvm.ClassFile.FieldType.int))) := WL_v wm_X0_104 wn_X0_nearer wl_X0_nearer wi_X0 wc_X0_nearer
theorem hd_X0_nearer : yX0_nearer.cls = yX0_nearer.cls ∧ yX0_nearer.cls ≠ "java/lang/invoke/MethodHandle" ∧ yX0_nearer.cls ≠ "java/lang/invoke/VarHandle" ∧ (parseMethodDescriptor yX0_nearer.desc).map (fun d => d.parameters.length) = some 2 := by decide +kernel
theorem gs_X0_94 : GoodIn WL (va_wsS RX0 94 yJ9_min_7cf53 (wC yJ9_min_7cf53 cJ9_min_7cf53 2 (Option.some Jvm.ClassFile.FieldType.int))) := WL_s wm_X0_94 wt_J9_min_7cf53 wi_J9 wc_J9_min_7cf53
theorem hd_J9_min_7cf53 : yJ9_min_7cf53.cls ≠ "java/lang/invoke/MethodHandle" ∧ yJ9_min_7cf53.cls ≠ "java/lang/invoke/VarHandle" ∧ (parseMethodDescriptor yJ9_min_7cf53.desc).map (fun d => d.parameters.length) = some 2 := by decide +kernel
theorem gv_X0_107 : GoodIn WL (wsV RX0 107 yX0_farther.cls yX0_farther (wC yX0_farther cX0_farther 4 (Option.some Jvm.ClassFile.FieldType.int))) := WL_v wm_X0_107 wn_X0_farther wl_X0_farther wi_X0 wc_X0_farther
theorem hd_X0_farther : yX0_farther.cls = yX0_farther.cls ∧ yX0_farther.cls ≠ "java/lang/invoke/MethodHandle" ∧ yX0_farther.cls ≠ "java/lang/invoke/VarHandle" ∧ (parseMethodDescriptor yX0_farther.desc).map (fun d => d.parameters.length) = some 2 := by decide +kernel
theorem gv_L_56 : GoodIn WL (wsV RL 56 yX3_on.cls yX3_on (wC yX3_on cX3_on 4 (Option.some Jvm.ClassFile.FieldType.int))) := WL_v wm_L_56 wn_X3_on wl_X3_on wi_X3 wc_X3_on
theorem hd_X3_on : yX3_on.cls = yX3_on.cls ∧ yX3_on.cls ≠ "java/lang/invoke/MethodHandle" ∧ yX3_on.cls ≠ "java/lang/invoke/VarHandle" ∧ (parseMethodDescriptor yX3_on.desc).map (fun d => d.parameters.length) = some 3 := by decide +kernel
theorem gv_X3_135 : GoodIn WL (wsV RX3 135 yX0_become.cls yX0_become (wC yX0_become cX0_become 2 (Option.none : Option Jvm.ClassFile.FieldType))) := WL_v wm_X3_135 wn_X0_become wl_X0_become wi_X0 wc_X0_become
theorem hd_X0_become : yX0_become.cls = yX0_become.cls ∧ yX0_become.cls ≠ "java/lang/invoke/MethodHandle" ∧ yX0_become.cls ≠ "java/lang/invoke/VarHandle" ∧ (parseMethodDescriptor yX0_become.desc).map (fun d => d.parameters.length) = some 1 := by decide +kernel
theorem gv_L_60 : GoodIn WL (wsV RL 60 yX3_when.cls yX3_when (wC yX3_when cX3_when 2 (Option.some Jvm.ClassFile.FieldType.int))) := WL_v wm_L_60 wn_X3_when wl_X3_when wi_X3 wc_X3_when
theorem hd_X3_when : yX3_when.cls = yX3_when.cls ∧ yX3_when.cls ≠ "java/lang/invoke/MethodHandle" ∧ yX3_when.cls ≠ "java/lang/invoke/VarHandle" ∧ (parseMethodDescriptor yX3_when.desc).map (fun d => d.parameters.length) = some 1 := by decide +kernel
theorem gv_X3_139 : GoodIn WL (wsV RX3 139 yX3_firstContent.cls yX3_firstContent (wC yX3_firstContent cX3_firstContent 3 (Option.some Jvm.ClassFile.FieldType.int))) := WL_v wm_X3_139 wn_X3_firstContent wl_X3_firstContent wi_X3 wc_X3_firstContent
theorem hd_X3_firstContent : yX3_firstContent.cls = yX3_firstContent.cls ∧ yX3_firstContent.cls ≠ "java/lang/invoke/MethodHandle" ∧ yX3_firstContent.cls ≠ "java/lang/invoke/VarHandle" ∧ (parseMethodDescriptor yX3_firstContent.desc).map (fun d => d.parameters.length) = some 1 := by decide +kernel
theorem gv_L_64 : GoodIn WL (wsV RL 64 yX3_all.cls yX3_all (wC yX3_all cX3_all 1 (Option.some Jvm.ClassFile.FieldType.int))) := WL_v wm_L_64 wn_X3_all wl_X3_all wi_X3 wc_X3_all
theorem hd_X3_all : yX3_all.cls = yX3_all.cls ∧ yX3_all.cls ≠ "java/lang/invoke/MethodHandle" ∧ yX3_all.cls ≠ "java/lang/invoke/VarHandle" ∧ (parseMethodDescriptor yX3_all.desc).map (fun d => d.parameters.length) = some 0 := by decide +kernel
theorem gv_X3_142 : GoodIn WL (wsV RX3 142 yX0_everybody.cls yX0_everybody (wC yX0_everybody cX0_everybody 1 (Option.some Jvm.ClassFile.FieldType.int))) := WL_v wm_X3_142 wn_X0_everybody wl_X0_everybody wi_X0 wc_X0_everybody
theorem hd_X0_everybody : yX0_everybody.cls = yX0_everybody.cls ∧ yX0_everybody.cls ≠ "java/lang/invoke/MethodHandle" ∧ yX0_everybody.cls ≠ "java/lang/invoke/VarHandle" ∧ (parseMethodDescriptor yX0_everybody.desc).map (fun d => d.parameters.length) = some 0 := by decide +kernel
theorem gv_L_69 : GoodIn WL (wsV RL 69 yX3_many.cls yX3_many (wC yX3_many cX3_many 2 (Option.some Jvm.ClassFile.FieldType.int))) := WL_v wm_L_69 wn_X3_many wl_X3_many wi_X3 wc_X3_many
theorem hd_X3_many : yX3_many.cls = yX3_many.cls ∧ yX3_many.cls ≠ "java/lang/invoke/MethodHandle" ∧ yX3_many.cls ≠ "java/lang/invoke/VarHandle" ∧ (parseMethodDescriptor yX3_many.desc).map (fun d => d.parameters.length) = some 1 := by decide +kernel
theorem gv_X3_145 : GoodIn WL (wsV RX3 145 yX0_howManyContent.cls yX0_howManyContent (wC yX0_howManyContent cX0_howManyContent 1 (Option.some Jvm.ClassFile.FieldType.int))) := WL_v wm_X3_145 wn_X0_howManyContent wl_X0_howManyContent wi_X0 wc_X0_howManyContent
theorem hd_X0_howManyContent : yX0_howManyContent.cls = yX0_howManyContent.cls ∧ yX0_howManyContent.cls ≠ "java/lang/invoke/MethodHandle" ∧ yX0_howManyContent.cls ≠ "java/lang/invoke/VarHandle" ∧ (parseMethodDescriptor yX0_howManyContent.desc).map (fun d => d.parameters.length) = some 0 := by decide +kernel
theorem gv_X0_54 : GoodIn WL (wsV RX0 54 yX0_whoIsContent.cls yX0_whoIsContent (wC yX0_whoIsContent cX0_whoIsContent 3 (Option.some Jvm.ClassFile.FieldType.int))) := WL_v wm_X0_54 wn_X0_whoIsContent wl_X0_whoIsContent wi_X0 wc_X0_whoIsContent
theorem gv_L_73 : GoodIn WL (wsV RL 73 yX3_porter.cls yX3_porter (wC yX3_porter cX3_porter 6 (Option.some Jvm.ClassFile.FieldType.int))) := WL_v wm_L_73 wn_X3_porter wl_X3_porter wi_X3 wc_X3_porter
theorem hd_X3_porter : yX3_porter.cls = yX3_porter.cls ∧ yX3_porter.cls ≠ "java/lang/invoke/MethodHandle" ∧ yX3_porter.cls ≠ "java/lang/invoke/VarHandle" ∧ (parseMethodDescriptor yX3_porter.desc).map (fun d => d.parameters.length) = some 1 := by decide +kernel
theorem gv_X3_151 : GoodIn WL (wsV RX3 151 yX3_suppose.cls yX3_suppose (wC yX3_suppose cX3_suppose 4 (Option.none : Option Jvm.ClassFile.FieldType))) := WL_v wm_X3_151 wn_X3_suppose wl_X3_suppose wi_X3 wc_X3_suppose
theorem hd_X3_suppose : yX3_suppose.cls = yX3_suppose.cls ∧ yX3_suppose.cls ≠ "java/lang/invoke/MethodHandle" ∧ yX3_suppose.cls ≠ "java/lang/invoke/VarHandle" ∧ (parseMethodDescriptor yX3_suppose.desc).map (fun d => d.parameters.length) = some 3 := by decide +kernel
theorem gv_L_77 : GoodIn WL (wsV RL 77 yX3_by.cls yX3_by (wC yX3_by cX3_by 4 (Option.some Jvm.ClassFile.FieldType.int))) := WL_v wm_L_77 wn_X3_by wl_X3_by wi_X3 wc_X3_by
theorem hd_X3_by : yX3_by.cls = yX3_by.cls ∧ yX3_by.cls ≠ "java/lang/invoke/MethodHandle" ∧ yX3_by.cls ≠ "java/lang/invoke/VarHandle" ∧ (parseMethodDescriptor yX3_by.desc).map (fun d => d.parameters.length) = some 2 := by decide +kernel
theorem gv_L_81 : GoodIn WL (wsV RL 81 yX3_kind.cls yX3_kind (wC yX3_kind cX3_kind 7 (Option.some Jvm.ClassFile.FieldType.int))) := WL_v wm_L_81 wn_X3_kind wl_X3_kind wi_X3 wc_X3_kind
theorem hd_X3_kind : yX3_kind.cls = yX3_kind.cls ∧ yX3_kind.cls ≠ "java/lang/invoke/MethodHandle" ∧ yX3_kind.cls ≠ "java/lang/invoke/VarHandle" ∧ (parseMethodDescriptor yX3_kind.desc).map (fun d => d.parameters.length) = some 2 := by decide +kernel
theorem gv_L_85 : GoodIn WL (wsV RL 85 yX3_place.cls yX3_place (wC yX3_place cX3_place 3 (Option.some Jvm.ClassFile.FieldType.int))) := WL_v wm_L_85 wn_X3_place wl_X3_place wi_X3 wc_X3_place
theorem hd_X3_place : yX3_place.cls = yX3_place.cls ∧ yX3_place.cls ≠ "java/lang/invoke/MethodHandle" ∧ yX3_place.cls ≠ "java/lang/invoke/VarHandle" ∧ (parseMethodDescriptor yX3_place.desc).map (fun d => d.parameters.length) = some 2 := by decide +kernel
theorem gv_X3_155 : GoodIn WL (wsV RX3 155 yX3_mostContentWith.cls yX3_mostContentWith (wC yX3_mostContentWith cX3_mostContentWith 9 (Option.some Jvm.ClassFile.FieldType.int))) := WL_v wm_X3_155 wn_X3_mostContentWith wl_X3_mostContentWith wi_X3 wc_X3_mostContentWith
theorem hd_X3_mostContentWith : yX3_mostContentWith.cls = yX3_mostContentWith.cls ∧ yX3_mostContentWith.cls ≠ "java/lang/invoke/MethodHandle" ∧ yX3_mostContentWith.cls ≠ "java/lang/invoke/VarHandle" ∧ (parseMethodDescriptor yX3_mostContentWith.desc).map (fun d => d.parameters.length) = some 4 := by decide +kernel
theorem gv_L_89 : GoodIn WL (wsV RL 89 yX3_clash.cls yX3_clash (wC yX3_clash cX3_clash 4 (Option.some Jvm.ClassFile.FieldType.int))) := WL_v wm_L_89 wn_X3_clash wl_X3_clash wi_X3 wc_X3_clash
theorem hd_X3_clash : yX3_clash.cls = yX3_clash.cls ∧ yX3_clash.cls ≠ "java/lang/invoke/MethodHandle" ∧ yX3_clash.cls ≠ "java/lang/invoke/VarHandle" ∧ (parseMethodDescriptor yX3_clash.desc).map (fun d => d.parameters.length) = some 1 := by decide +kernel
theorem gv_X3_159 : GoodIn WL (wsV RX3 159 yX3_gatherContentWith.cls yX3_gatherContentWith (wC yX3_gatherContentWith cX3_gatherContentWith 5 (Option.none : Option Jvm.ClassFile.FieldType))) := WL_v wm_X3_159 wn_X3_gatherContentWith wl_X3_gatherContentWith wi_X3 wc_X3_gatherContentWith
theorem hd_X3_gatherContentWith : yX3_gatherContentWith.cls = yX3_gatherContentWith.cls ∧ yX3_gatherContentWith.cls ≠ "java/lang/invoke/MethodHandle" ∧ yX3_gatherContentWith.cls ≠ "java/lang/invoke/VarHandle" ∧ (parseMethodDescriptor yX3_gatherContentWith.desc).map (fun d => d.parameters.length) = some 1 := by decide +kernel
theorem gv_X3_162 : GoodIn WL (wsV RX3 162 yX3_wantsClash.cls yX3_wantsClash (wC yX3_wantsClash cX3_wantsClash 3 (Option.some Jvm.ClassFile.FieldType.boolean))) := WL_v wm_X3_162 wn_X3_wantsClash wl_X3_wantsClash wi_X3 wc_X3_wantsClash
theorem hd_X3_wantsClash : yX3_wantsClash.cls = yX3_wantsClash.cls ∧ yX3_wantsClash.cls ≠ "java/lang/invoke/MethodHandle" ∧ yX3_wantsClash.cls ≠ "java/lang/invoke/VarHandle" ∧ (parseMethodDescriptor yX3_wantsClash.desc).map (fun d => d.parameters.length) = some 2 := by decide +kernel
theorem gv_L_93 : GoodIn WL (wsV RL 93 yX3_want.cls yX3_want (wC yX3_want cX3_want 3 (Option.some Jvm.ClassFile.FieldType.int))) := WL_v wm_L_93 wn_X3_want wl_X3_want wi_X3 wc_X3_want
theorem hd_X3_want : yX3_want.cls = yX3_want.cls ∧ yX3_want.cls ≠ "java/lang/invoke/MethodHandle" ∧ yX3_want.cls ≠ "java/lang/invoke/VarHandle" ∧ (parseMethodDescriptor yX3_want.desc).map (fun d => d.parameters.length) = some 2 := by decide +kernel
theorem gv_L_97 : GoodIn WL (wsV RL 97 yX3_nose.cls yX3_nose (wC yX3_nose cX3_nose 4 (Option.some Jvm.ClassFile.FieldType.int))) := WL_v wm_L_97 wn_X3_nose wl_X3_nose wi_X3 wc_X3_nose
theorem hd_X3_nose : yX3_nose.cls = yX3_nose.cls ∧ yX3_nose.cls ≠ "java/lang/invoke/MethodHandle" ∧ yX3_nose.cls ≠ "java/lang/invoke/VarHandle" ∧ (parseMethodDescriptor yX3_nose.desc).map (fun d => d.parameters.length) = some 2 := by decide +kernel
theorem gv_L_101 : GoodIn WL (wsV RL 101 yX3_feed.cls yX3_feed (wC yX3_feed cX3_feed 4 (Option.some Jvm.ClassFile.FieldType.int))) := WL_v wm_L_101 wn_X3_feed wl_X3_feed wi_X3 wc_X3_feed
theorem hd_X3_feed : yX3_feed.cls = yX3_feed.cls ∧ yX3_feed.cls ≠ "java/lang/invoke/MethodHandle" ∧ yX3_feed.cls ≠ "java/lang/invoke/VarHandle" ∧ (parseMethodDescriptor yX3_feed.desc).map (fun d => d.parameters.length) = some 2 := by decide +kernel
theorem gv_X3_168 : GoodIn WL (wsV RX3 168 yX2_take.cls yX2_take (wC yX2_take cX2_take 2 (Option.none : Option Jvm.ClassFile.FieldType))) := WL_v wm_X3_168 wn_X2_take wl_X2_take wi_X2 wc_X2_take
theorem hd_X2_take : yX2_take.cls = yX2_take.cls ∧ yX2_take.cls ≠ "java/lang/invoke/MethodHandle" ∧ yX2_take.cls ≠ "java/lang/invoke/VarHandle" ∧ (parseMethodDescriptor yX2_take.desc).map (fun d => d.parameters.length) = some 1 := by decide +kernel
theorem gv_L_105 : GoodIn WL (wsV RL 105 yX3_wipe.cls yX3_wipe (wC yX3_wipe cX3_wipe 2 (Option.some Jvm.ClassFile.FieldType.int))) := WL_v wm_L_105 wn_X3_wipe wl_X3_wipe wi_X3 wc_X3_wipe
theorem hd_X3_wipe : yX3_wipe.cls = yX3_wipe.cls ∧ yX3_wipe.cls ≠ "java/lang/invoke/MethodHandle" ∧ yX3_wipe.cls ≠ "java/lang/invoke/VarHandle" ∧ (parseMethodDescriptor yX3_wipe.desc).map (fun d => d.parameters.length) = some 0 := by decide +kernel
theorem gv_L_109 : GoodIn WL (wsV RL 109 yX3_night.cls yX3_night (wC yX3_night cX3_night 2 (Option.some Jvm.ClassFile.FieldType.int))) := WL_v wm_L_109 wn_X3_night wl_X3_night wi_X3 wc_X3_night
theorem hd_X3_night : yX3_night.cls = yX3_night.cls ∧ yX3_night.cls ≠ "java/lang/invoke/MethodHandle" ∧ yX3_night.cls ≠ "java/lang/invoke/VarHandle" ∧ (parseMethodDescriptor yX3_night.desc).map (fun d => d.parameters.length) = some 0 := by decide +kernel
theorem gv_X3_171 : GoodIn WL (wsV RX3 171 yX2_tell.cls yX2_tell (wC yX2_tell cX2_tell 3 (Option.some Jvm.ClassFile.FieldType.int))) := WL_v wm_X3_171 wn_X2_tell wl_X2_tell wi_X2 wc_X2_tell
theorem hd_X2_tell : yX2_tell.cls = yX2_tell.cls ∧ yX2_tell.cls ≠ "java/lang/invoke/MethodHandle" ∧ yX2_tell.cls ≠ "java/lang/invoke/VarHandle" ∧ (parseMethodDescriptor yX2_tell.desc).map (fun d => d.parameters.length) = some 1 := by decide +kernel
theorem gv_X2_34 : GoodIn WL (wsV RX2 34 yX2_advance.cls yX2_advance (wC yX2_advance cX2_advance 1 (Option.none : Option Jvm.ClassFile.FieldType))) := WL_v wm_X2_34 wn_X2_advance wl_X2_advance wi_X2 wc_X2_advance
theorem hd_X2_advance : yX2_advance.cls = yX2_advance.cls ∧ yX2_advance.cls ≠ "java/lang/invoke/MethodHandle" ∧ yX2_advance.cls ≠ "java/lang/invoke/VarHandle" ∧ (parseMethodDescriptor yX2_advance.desc).map (fun d => d.parameters.length) = some 0 := by decide +kernel
theorem gv_X2_122 : GoodIn WL (wsV RX2 122 yX2_byteAt.cls yX2_byteAt (wC yX2_byteAt cX2_byteAt 2 (Option.some Jvm.ClassFile.FieldType.int))) := WL_v wm_X2_122 wn_X2_byteAt wl_X2_byteAt wi_X2 wc_X2_byteAt
theorem hd_X2_byteAt : yX2_byteAt.cls = yX2_byteAt.cls ∧ yX2_byteAt.cls ≠ "java/lang/invoke/MethodHandle" ∧ yX2_byteAt.cls ≠ "java/lang/invoke/VarHandle" ∧ (parseMethodDescriptor yX2_byteAt.desc).map (fun d => d.parameters.length) = some 1 := by decide +kernel
theorem gs_X2_130 : GoodIn WL (va_wsS RX2 130 yX2_tokenOf (wC yX2_tokenOf cX2_tokenOf 1 (Option.some Jvm.ClassFile.FieldType.int))) := WL_s wm_X2_130 wt_X2_tokenOf wi_X2 wc_X2_tokenOf
theorem hd_X2_tokenOf : yX2_tokenOf.cls ≠ "java/lang/invoke/MethodHandle" ∧ yX2_tokenOf.cls ≠ "java/lang/invoke/VarHandle" ∧ (parseMethodDescriptor yX2_tokenOf.desc).map (fun d => d.parameters.length) = some 1 := by decide +kernel
theorem gs_X2_133 : GoodIn WL (va_wsS RX2 133 yJ9_min_7cf53 (wC yJ9_min_7cf53 cJ9_min_7cf53 2 (Option.some Jvm.ClassFile.FieldType.int))) := WL_s wm_X2_133 wt_J9_min_7cf53 wi_J9 wc_J9_min_7cf53
theorem gv_X2_37 : GoodIn WL (wsV RX2 37 yX2_isItem.cls yX2_isItem (wC yX2_isItem cX2_isItem 3 (Option.some Jvm.ClassFile.FieldType.boolean))) := WL_v wm_X2_37 wn_X2_isItem wl_X2_isItem wi_X2 wc_X2_isItem
theorem hd_X2_isItem : yX2_isItem.cls = yX2_isItem.cls ∧ yX2_isItem.cls ≠ "java/lang/invoke/MethodHandle" ∧ yX2_isItem.cls ≠ "java/lang/invoke/VarHandle" ∧ (parseMethodDescriptor yX2_isItem.desc).map (fun d => d.parameters.length) = some 1 := by decide +kernel
theorem gv_X2_41 : GoodIn WL (wsV RX2 41 yX2_kindNamed.cls yX2_kindNamed (wC yX2_kindNamed cX2_kindNamed 1 (Option.some Jvm.ClassFile.FieldType.int))) := WL_v wm_X2_41 wn_X2_kindNamed wl_X2_kindNamed wi_X2 wc_X2_kindNamed
theorem hd_X2_kindNamed : yX2_kindNamed.cls = yX2_kindNamed.cls ∧ yX2_kindNamed.cls ≠ "java/lang/invoke/MethodHandle" ∧ yX2_kindNamed.cls ≠ "java/lang/invoke/VarHandle" ∧ (parseMethodDescriptor yX2_kindNamed.desc).map (fun d => d.parameters.length) = some 0 := by decide +kernel
theorem gv_X2_51 : GoodIn WL (wsV RX2 51 yX2_isWord.cls yX2_isWord (wC yX2_isWord cX2_isWord 3 (Option.some Jvm.ClassFile.FieldType.boolean))) := WL_v wm_X2_51 wn_X2_isWord wl_X2_isWord wi_X2 wc_X2_isWord
theorem hd_X2_isWord : yX2_isWord.cls = yX2_isWord.cls ∧ yX2_isWord.cls ≠ "java/lang/invoke/MethodHandle" ∧ yX2_isWord.cls ≠ "java/lang/invoke/VarHandle" ∧ (parseMethodDescriptor yX2_isWord.desc).map (fun d => d.parameters.length) = some 1 := by decide +kernel
theorem gv_X2_118 : GoodIn WL (wsV RX2 118 yJ0_length_8abf5.cls yJ0_length_8abf5 (wC yJ0_length_8abf5 cJ0_length_8abf5 1 (Option.some Jvm.ClassFile.FieldType.int))) := WL_v wm_X2_118 wn_J0_length_8abf5 wl_J0_length_8abf5 wi_J0 wc_J0_length_8abf5
theorem hd_J0_length_8abf5 : yJ0_length_8abf5.cls = yJ0_length_8abf5.cls ∧ yJ0_length_8abf5.cls ≠ "java/lang/invoke/MethodHandle" ∧ yJ0_length_8abf5.cls ≠ "java/lang/invoke/VarHandle" ∧ (parseMethodDescriptor yJ0_length_8abf5.desc).map (fun d => d.parameters.length) = some 0 := by decide +kernel
theorem gv_J0_335 : GoodIn WL (wsV RJ0 335 yJ0_coder_7d493.cls yJ0_coder_7d493 (wC yJ0_coder_7d493 cJ0_coder_7d493 1 (Option.some Jvm.ClassFile.FieldType.byte))) := WL_v wm_J0_335 wn_J0_coder_7d493 wl_J0_coder_7d493 wi_J0 wc_J0_coder_7d493
theorem hd_J0_coder_7d493 : yJ0_coder_7d493.cls = yJ0_coder_7d493.cls ∧ yJ0_coder_7d493.cls ≠ "java/lang/invoke/MethodHandle" ∧ yJ0_coder_7d493.cls ≠ "java/lang/invoke/VarHandle" ∧ (parseMethodDescriptor yJ0_coder_7d493.desc).map (fun d => d.parameters.length) = some 0 := by decide +kernel
theorem gv_X2_126 : GoodIn WL (wsV RX2 126 yJ0_charAt_5068e.cls yJ0_charAt_5068e (wC yJ0_charAt_5068e cJ0_charAt_5068e 2 (Option.some Jvm.ClassFile.FieldType.char))) := WL_v wm_X2_126 wn_J0_charAt_5068e wl_J0_charAt_5068e wi_J0 wc_J0_charAt_5068e
theorem hd_J0_charAt_5068e : yJ0_charAt_5068e.cls = yJ0_charAt_5068e.cls ∧ yJ0_charAt_5068e.cls ≠ "java/lang/invoke/MethodHandle" ∧ yJ0_charAt_5068e.cls ≠ "java/lang/invoke/VarHandle" ∧ (parseMethodDescriptor yJ0_charAt_5068e.desc).map (fun d => d.parameters.length) = some 1 := by decide +kernel
theorem gv_J0_492 : GoodIn WL (wsV RJ0 492 yJ0_isLatin1_aae02.cls yJ0_isLatin1_aae02 (wC yJ0_isLatin1_aae02 cJ0_isLatin1_aae02 1 (Option.some Jvm.ClassFile.FieldType.boolean))) := WL_v wm_J0_492 wn_J0_isLatin1_aae02 wl_J0_isLatin1_aae02 wi_J0 wc_J0_isLatin1_aae02
theorem hd_J0_isLatin1_aae02 : yJ0_isLatin1_aae02.cls = yJ0_isLatin1_aae02.cls ∧ yJ0_isLatin1_aae02.cls ≠ "java/lang/invoke/MethodHandle" ∧ yJ0_isLatin1_aae02.cls ≠ "java/lang/invoke/VarHandle" ∧ (parseMethodDescriptor yJ0_isLatin1_aae02.desc).map (fun d => d.parameters.length) = some 0 := by decide +kernel
theorem gs_J0_495 : GoodIn WL (va_wsS RJ0 495 yJ1_charAt_3b067 (wC yJ1_charAt_3b067 cJ1_charAt_3b067 2 (Option.some Jvm.ClassFile.FieldType.char))) := WL_s wm_J0_495 wt_J1_charAt_3b067 wi_J1 wc_J1_charAt_3b067
theorem hd_J1_charAt_3b067 : yJ1_charAt_3b067.cls ≠ "java/lang/invoke/MethodHandle" ∧ yJ1_charAt_3b067.cls ≠ "java/lang/invoke/VarHandle" ∧ (parseMethodDescriptor yJ1_charAt_3b067.desc).map (fun d => d.parameters.length) = some 2 := by decide +kernel
theorem gs_J1_9 : GoodIn WL (va_wsS RJ1 9 yJ0_checkIndex_df160 (wC yJ0_checkIndex_df160 cJ0_checkIndex_df160 2 (Option.none : Option Jvm.ClassFile.FieldType))) := WL_s wm_J1_9 wt_J0_checkIndex_df160 wi_J0 wc_J0_checkIndex_df160
theorem hd_J0_checkIndex_df160 : yJ0_checkIndex_df160.cls ≠ "java/lang/invoke/MethodHandle" ∧ yJ0_checkIndex_df160.cls ≠ "java/lang/invoke/VarHandle" ∧ (parseMethodDescriptor yJ0_checkIndex_df160.desc).map (fun d => d.parameters.length) = some 2 := by decide +kernel
theorem gs_J0_1059 : GoodIn WL (va_wsS RJ0 1059 yJ3_checkIndex_8e157 (wC yJ3_checkIndex_8e157 cJ3_checkIndex_8e157 3 (Option.some Jvm.ClassFile.FieldType.int))) := WL_s wm_J0_1059 wt_J3_checkIndex_8e157 wi_J3 wc_J3_checkIndex_8e157
theorem hd_J3_checkIndex_8e157 : yJ3_checkIndex_8e157.cls ≠ "java/lang/invoke/MethodHandle" ∧ yJ3_checkIndex_8e157.cls ≠ "java/lang/invoke/VarHandle" ∧ (parseMethodDescriptor yJ3_checkIndex_8e157.desc).map (fun d => d.parameters.length) = some 3 := by decide +kernel
theorem gs_J0_498 : GoodIn WL (va_wsS RJ0 498 yJ2_charAt_3b067 (wC yJ2_charAt_3b067 cJ2_charAt_3b067 2 (Option.some Jvm.ClassFile.FieldType.char))) := WL_s wm_J0_498 wt_J2_charAt_3b067 wi_J2 wc_J2_charAt_3b067
theorem hd_J2_charAt_3b067 : yJ2_charAt_3b067.cls ≠ "java/lang/invoke/MethodHandle" ∧ yJ2_charAt_3b067.cls ≠ "java/lang/invoke/VarHandle" ∧ (parseMethodDescriptor yJ2_charAt_3b067.desc).map (fun d => d.parameters.length) = some 2 := by decide +kernel
theorem gs_J2_67 : GoodIn WL (va_wsS RJ2 67 yJ2_checkIndex_2214a (wC yJ2_checkIndex_2214a cJ2_checkIndex_2214a 2 (Option.none : Option Jvm.ClassFile.FieldType))) := WL_s wm_J2_67 wt_J2_checkIndex_2214a wi_J2 wc_J2_checkIndex_2214a
theorem hd_J2_checkIndex_2214a : yJ2_checkIndex_2214a.cls ≠ "java/lang/invoke/MethodHandle" ∧ yJ2_checkIndex_2214a.cls ≠ "java/lang/invoke/VarHandle" ∧ (parseMethodDescriptor yJ2_checkIndex_2214a.desc).map (fun d => d.parameters.length) = some 2 := by decide +kernel
theorem gs_J2_48 : GoodIn WL (va_wsS RJ2 48 yJ2_length_9d52b (wC yJ2_length_9d52b cJ2_length_9d52b 1 (Option.some Jvm.ClassFile.FieldType.int))) := WL_s wm_J2_48 wt_J2_length_9d52b wi_J2 wc_J2_length_9d52b
theorem hd_J2_length_9d52b : yJ2_length_9d52b.cls ≠ "java/lang/invoke/MethodHandle" ∧ yJ2_length_9d52b.cls ≠ "java/lang/invoke/VarHandle" ∧ (parseMethodDescriptor yJ2_length_9d52b.desc).map (fun d => d.parameters.length) = some 1 := by decide +kernel
theorem gs_J2_414 : GoodIn WL (va_wsS RJ2 414 yJ0_checkIndex_df160 (wC yJ0_checkIndex_df160 cJ0_checkIndex_df160 2 (Option.none : Option Jvm.ClassFile.FieldType))) := WL_s wm_J2_414 wt_J0_checkIndex_df160 wi_J0 wc_J0_checkIndex_df160
theorem gs_J2_71 : GoodIn WL (va_wsS RJ2 71 yJ2_getChar_3b067 (wC yJ2_getChar_3b067 cJ2_getChar_3b067 2 (Option.some Jvm.ClassFile.FieldType.char))) := WL_s wm_J2_71 wt_J2_getChar_3b067 wi_J2 wc_J2_getChar_3b067
theorem hd_J2_getChar_3b067 : yJ2_getChar_3b067.cls ≠ "java/lang/invoke/MethodHandle" ∧ yJ2_getChar_3b067.cls ≠ "java/lang/invoke/VarHandle" ∧ (parseMethodDescriptor yJ2_getChar_3b067.desc).map (fun d => d.parameters.length) = some 2 := by decide +kernel
theorem gv_X2_45 : GoodIn WL (wsV RX2 45 yX2_isFigure.cls yX2_isFigure (wC yX2_isFigure cX2_isFigure 5 (Option.some Jvm.ClassFile.FieldType.boolean))) := WL_v wm_X2_45 wn_X2_isFigure wl_X2_isFigure wi_X2 wc_X2_isFigure
theorem hd_X2_isFigure : yX2_isFigure.cls = yX2_isFigure.cls ∧ yX2_isFigure.cls ≠ "java/lang/invoke/MethodHandle" ∧ yX2_isFigure.cls ≠ "java/lang/invoke/VarHandle" ∧ (parseMethodDescriptor yX2_isFigure.desc).map (fun d => d.parameters.length) = some 2 := by decide +kernel
theorem gv_X2_76 : GoodIn WL (wsV RX2 76 yX0_isFull.cls yX0_isFull (wC yX0_isFull cX0_isFull 1 (Option.some Jvm.ClassFile.FieldType.boolean))) := WL_v wm_X2_76 wn_X0_isFull wl_X0_isFull wi_X0 wc_X0_isFull
theorem gv_X2_67 : GoodIn WL (wsV RX2 67 yX2_takesNumber.cls yX2_takesNumber (wC yX2_takesNumber cX2_takesNumber 2 (Option.some Jvm.ClassFile.FieldType.boolean))) := WL_v wm_X2_67 wn_X2_takesNumber wl_X2_takesNumber wi_X2 wc_X2_takesNumber
theorem hd_X2_takesNumber : yX2_takesNumber.cls = yX2_takesNumber.cls ∧ yX2_takesNumber.cls ≠ "java/lang/invoke/MethodHandle" ∧ yX2_takesNumber.cls ≠ "java/lang/invoke/VarHandle" ∧ (parseMethodDescriptor yX2_takesNumber.desc).map (fun d => d.parameters.length) = some 1 := by decide +kernel
theorem gv_X2_80 : GoodIn WL (wsV RX2 80 yX0_hang.cls yX0_hang (wC yX0_hang cX0_hang 5 (Option.some Jvm.ClassFile.FieldType.int))) := WL_v wm_X2_80 wn_X0_hang wl_X0_hang wi_X0 wc_X0_hang
theorem gv_X2_86 : GoodIn WL (wsV RX2 86 yX0_put.cls yX0_put (wC yX0_put cX0_put 5 (Option.none : Option Jvm.ClassFile.FieldType))) := WL_v wm_X2_86 wn_X0_put wl_X0_put wi_X0 wc_X0_put
theorem gv_X2_55 : GoodIn WL (wsV RX2 55 yX2_isWanting.cls yX2_isWanting (wC yX2_isWanting cX2_isWanting 4 (Option.some Jvm.ClassFile.FieldType.boolean))) := WL_v wm_X2_55 wn_X2_isWanting wl_X2_isWanting wi_X2 wc_X2_isWanting
theorem hd_X2_isWanting : yX2_isWanting.cls = yX2_isWanting.cls ∧ yX2_isWanting.cls ≠ "java/lang/invoke/MethodHandle" ∧ yX2_isWanting.cls ≠ "java/lang/invoke/VarHandle" ∧ (parseMethodDescriptor yX2_isWanting.desc).map (fun d => d.parameters.length) = some 1 := by decide +kernel
theorem gv_X2_95 : GoodIn WL (wsV RX2 95 yX2_wantNamed.cls yX2_wantNamed (wC yX2_wantNamed cX2_wantNamed 1 (Option.some Jvm.ClassFile.FieldType.int))) := WL_v wm_X2_95 wn_X2_wantNamed wl_X2_wantNamed wi_X2 wc_X2_wantNamed
theorem hd_X2_wantNamed : yX2_wantNamed.cls = yX2_wantNamed.cls ∧ yX2_wantNamed.cls ≠ "java/lang/invoke/MethodHandle" ∧ yX2_wantNamed.cls ≠ "java/lang/invoke/VarHandle" ∧ (parseMethodDescriptor yX2_wantNamed.desc).map (fun d => d.parameters.length) = some 0 := by decide +kernel
theorem gv_X2_60 : GoodIn WL (wsV RX2 60 yX2_isLetting.cls yX2_isLetting (wC yX2_isLetting cX2_isLetting 3 (Option.some Jvm.ClassFile.FieldType.boolean))) := WL_v wm_X2_60 wn_X2_isLetting wl_X2_isLetting wi_X2 wc_X2_isLetting
theorem hd_X2_isLetting : yX2_isLetting.cls = yX2_isLetting.cls ∧ yX2_isLetting.cls ≠ "java/lang/invoke/MethodHandle" ∧ yX2_isLetting.cls ≠ "java/lang/invoke/VarHandle" ∧ (parseMethodDescriptor yX2_isLetting.desc).map (fun d => d.parameters.length) = some 2 := by decide +kernel
theorem gv_L_113 : GoodIn WL (wsV RL 113 yX3_sheet.cls yX3_sheet (wC yX3_sheet cX3_sheet 5 (Option.some Jvm.ClassFile.FieldType.int))) := WL_v wm_L_113 wn_X3_sheet wl_X3_sheet wi_X3 wc_X3_sheet
theorem hd_X3_sheet : yX3_sheet.cls = yX3_sheet.cls ∧ yX3_sheet.cls ≠ "java/lang/invoke/MethodHandle" ∧ yX3_sheet.cls ≠ "java/lang/invoke/VarHandle" ∧ (parseMethodDescriptor yX3_sheet.desc).map (fun d => d.parameters.length) = some 3 := by decide +kernel
theorem gv_X3_175 : GoodIn WL (wsV RX3 175 yX3_sheetAt.cls yX3_sheetAt (wC yX3_sheetAt cX3_sheetAt 2 (Option.some (Jvm.ClassFile.FieldType.object "VarnishNight$Sheet")))) := WL_v wm_X3_175 wn_X3_sheetAt wl_X3_sheetAt wi_X3 wc_X3_sheetAt
theorem hd_X3_sheetAt : yX3_sheetAt.cls = yX3_sheetAt.cls ∧ yX3_sheetAt.cls ≠ "java/lang/invoke/MethodHandle" ∧ yX3_sheetAt.cls ≠ "java/lang/invoke/VarHandle" ∧ (parseMethodDescriptor yX3_sheetAt.desc).map (fun d => d.parameters.length) = some 1 := by decide +kernel
theorem gv_X3_180 : GoodIn WL (wsV RX3 180 yX1_lay.cls yX1_lay (wC yX1_lay cX1_lay 4 (Option.none : Option Jvm.ClassFile.FieldType))) := WL_v wm_X3_180 wn_X1_lay wl_X1_lay wi_X1 wc_X1_lay
theorem hd_X1_lay : yX1_lay.cls = yX1_lay.cls ∧ yX1_lay.cls ≠ "java/lang/invoke/MethodHandle" ∧ yX1_lay.cls ≠ "java/lang/invoke/VarHandle" ∧ (parseMethodDescriptor yX1_lay.desc).map (fun d => d.parameters.length) = some 2 := by decide +kernel
theorem gv_L_119 : GoodIn WL (wsV RL 119 yX3_write.cls yX3_write (wC yX3_write cX3_write 8 (Option.some Jvm.ClassFile.FieldType.long))) := WL_v wm_L_119 wn_X3_write wl_X3_write wi_X3 wc_X3_write
theorem hd_X3_write : yX3_write.cls = yX3_write.cls ∧ yX3_write.cls ≠ "java/lang/invoke/MethodHandle" ∧ yX3_write.cls ≠ "java/lang/invoke/VarHandle" ∧ (parseMethodDescriptor yX3_write.desc).map (fun d => d.parameters.length) = some 3 := by decide +kernel
theorem gv_X3_185 : GoodIn WL (wsV RX3 185 yX1_isMissing.cls yX1_isMissing (wC yX1_isMissing cX1_isMissing 1 (Option.some Jvm.ClassFile.FieldType.boolean))) := WL_v wm_X3_185 wn_X1_isMissing wl_X1_isMissing wi_X1 wc_X1_isMissing
theorem hd_X1_isMissing : yX1_isMissing.cls = yX1_isMissing.cls ∧ yX1_isMissing.cls ≠ "java/lang/invoke/MethodHandle" ∧ yX1_isMissing.cls ≠ "java/lang/invoke/VarHandle" ∧ (parseMethodDescriptor yX1_isMissing.desc).map (fun d => d.parameters.length) = some 0 := by decide +kernel
theorem gv_X3_189 : GoodIn WL (wsV RX3 189 yX1_get.cls yX1_get (wC yX1_get cX1_get 2 (Option.some Jvm.ClassFile.FieldType.long))) := WL_v wm_X3_189 wn_X1_get wl_X1_get wi_X1 wc_X1_get
theorem hd_X1_get : yX1_get.cls = yX1_get.cls ∧ yX1_get.cls ≠ "java/lang/invoke/MethodHandle" ∧ yX1_get.cls ≠ "java/lang/invoke/VarHandle" ∧ (parseMethodDescriptor yX1_get.desc).map (fun d => d.parameters.length) = some 1 := by decide +kernel
theorem gv_X3_192 : GoodIn WL (wsV RX3 192 yX1_put.cls yX1_put (wC yX1_put cX1_put 4 (Option.none : Option Jvm.ClassFile.FieldType))) := WL_v wm_X3_192 wn_X1_put wl_X1_put wi_X1 wc_X1_put
theorem hd_X1_put : yX1_put.cls = yX1_put.cls ∧ yX1_put.cls ≠ "java/lang/invoke/MethodHandle" ∧ yX1_put.cls ≠ "java/lang/invoke/VarHandle" ∧ (parseMethodDescriptor yX1_put.desc).map (fun d => d.parameters.length) = some 2 := by decide +kernel
theorem gv_X1_22 : GoodIn WL (wsV RX1 22 yX1_lowest.cls yX1_lowest (wC yX1_lowest cX1_lowest 3 (Option.some Jvm.ClassFile.FieldType.long))) := WL_v wm_X1_22 wn_X1_lowest wl_X1_lowest wi_X1 wc_X1_lowest
theorem hd_X1_lowest : yX1_lowest.cls = yX1_lowest.cls ∧ yX1_lowest.cls ≠ "java/lang/invoke/MethodHandle" ∧ yX1_lowest.cls ≠ "java/lang/invoke/VarHandle" ∧ (parseMethodDescriptor yX1_lowest.desc).map (fun d => d.parameters.length) = some 1 := by decide +kernel
theorem gv_L_124 : GoodIn WL (wsV RL 124 yX3_copy.cls yX3_copy (wC yX3_copy cX3_copy 8 (Option.some Jvm.ClassFile.FieldType.int))) := WL_v wm_L_124 wn_X3_copy wl_X3_copy wi_X3 wc_X3_copy
theorem hd_X3_copy : yX3_copy.cls = yX3_copy.cls ∧ yX3_copy.cls ≠ "java/lang/invoke/MethodHandle" ∧ yX3_copy.cls ≠ "java/lang/invoke/VarHandle" ∧ (parseMethodDescriptor yX3_copy.desc).map (fun d => d.parameters.length) = some 5 := by decide +kernel
theorem gv_X3_198 : GoodIn WL (wsV RX3 198 yX1_lacks.cls yX1_lacks (wC yX1_lacks cX1_lacks 3 (Option.some Jvm.ClassFile.FieldType.boolean))) := WL_v wm_X3_198 wn_X1_lacks wl_X1_lacks wi_X1 wc_X1_lacks
theorem hd_X1_lacks : yX1_lacks.cls = yX1_lacks.cls ∧ yX1_lacks.cls ≠ "java/lang/invoke/MethodHandle" ∧ yX1_lacks.cls ≠ "java/lang/invoke/VarHandle" ∧ (parseMethodDescriptor yX1_lacks.desc).map (fun d => d.parameters.length) = some 2 := by decide +kernel
theorem gv_L_129 : GoodIn WL (wsV RL 129 yX3_lays.cls yX3_lays (wC yX3_lays cX3_lays 7 (Option.some Jvm.ClassFile.FieldType.int))) := WL_v wm_L_129 wn_X3_lays wl_X3_lays wi_X3 wc_X3_lays
theorem hd_X3_lays : yX3_lays.cls = yX3_lays.cls ∧ yX3_lays.cls ≠ "java/lang/invoke/MethodHandle" ∧ yX3_lays.cls ≠ "java/lang/invoke/VarHandle" ∧ (parseMethodDescriptor yX3_lays.desc).map (fun d => d.parameters.length) = some 1 := by decide +kernel
theorem gv_L_133 : GoodIn WL (wsV RL 133 yX3_book.cls yX3_book (wC yX3_book cX3_book 5 (Option.some Jvm.ClassFile.FieldType.int))) := WL_v wm_L_133 wn_X3_book wl_X3_book wi_X3 wc_X3_book
theorem hd_X3_book : yX3_book.cls = yX3_book.cls ∧ yX3_book.cls ≠ "java/lang/invoke/MethodHandle" ∧ yX3_book.cls ≠ "java/lang/invoke/VarHandle" ∧ (parseMethodDescriptor yX3_book.desc).map (fun d => d.parameters.length) = some 2 := by decide +kernel
theorem gv_X3_212 : GoodIn WL (wsV RX3 212 yX0_look.cls yX0_look (wC yX0_look cX0_look 2 (Option.some Jvm.ClassFile.FieldType.int))) := WL_v wm_X3_212 wn_X0_look wl_X0_look wi_X0 wc_X0_look
theorem hd_X0_look : yX0_look.cls = yX0_look.cls ∧ yX0_look.cls ≠ "java/lang/invoke/MethodHandle" ∧ yX0_look.cls ≠ "java/lang/invoke/VarHandle" ∧ (parseMethodDescriptor yX0_look.desc).map (fun d => d.parameters.length) = some 1 := by decide +kernel
theorem gv_L_137 : GoodIn WL (wsV RL 137 yX3_read.cls yX3_read (wC yX3_read cX3_read 7 (Option.some Jvm.ClassFile.FieldType.int))) := WL_v wm_L_137 wn_X3_read wl_X3_read wi_X3 wc_X3_read
theorem hd_X3_read : yX3_read.cls = yX3_read.cls ∧ yX3_read.cls ≠ "java/lang/invoke/MethodHandle" ∧ yX3_read.cls ≠ "java/lang/invoke/VarHandle" ∧ (parseMethodDescriptor yX3_read.desc).map (fun d => d.parameters.length) = some 2 := by decide +kernel
theorem gv_X3_215 : GoodIn WL (wsV RX3 215 yX3_trialGoesAs.cls yX3_trialGoesAs (wC yX3_trialGoesAs cX3_trialGoesAs 4 (Option.some Jvm.ClassFile.FieldType.boolean))) := WL_v wm_X3_215 wn_X3_trialGoesAs wl_X3_trialGoesAs wi_X3 wc_X3_trialGoesAs
theorem hd_X3_trialGoesAs : yX3_trialGoesAs.cls = yX3_trialGoesAs.cls ∧ yX3_trialGoesAs.cls ≠ "java/lang/invoke/MethodHandle" ∧ yX3_trialGoesAs.cls ≠ "java/lang/invoke/VarHandle" ∧ (parseMethodDescriptor yX3_trialGoesAs.desc).map (fun d => d.parameters.length) = some 2 := by decide +kernel
theorem gv_L_141 : GoodIn WL (wsV RL 141 yX3_image.cls yX3_image (wC yX3_image cX3_image 1 (Option.some Jvm.ClassFile.FieldType.int))) := WL_v wm_L_141 wn_X3_image wl_X3_image wi_X3 wc_X3_image
theorem hd_X3_image : yX3_image.cls = yX3_image.cls ∧ yX3_image.cls ≠ "java/lang/invoke/MethodHandle" ∧ yX3_image.cls ≠ "java/lang/invoke/VarHandle" ∧ (parseMethodDescriptor yX3_image.desc).map (fun d => d.parameters.length) = some 0 := by decide +kernel
theorem gv_L_145 : GoodIn WL (wsV RL 145 yX3_undo.cls yX3_undo (wC yX3_undo cX3_undo 1 (Option.some Jvm.ClassFile.FieldType.int))) := WL_v wm_L_145 wn_X3_undo wl_X3_undo wi_X3 wc_X3_undo
theorem hd_X3_undo : yX3_undo.cls = yX3_undo.cls ∧ yX3_undo.cls ≠ "java/lang/invoke/MethodHandle" ∧ yX3_undo.cls ≠ "java/lang/invoke/VarHandle" ∧ (parseMethodDescriptor yX3_undo.desc).map (fun d => d.parameters.length) = some 0 := by decide +kernel
theorem gv_L_149 : GoodIn WL (wsV RL 149 yX3_tear.cls yX3_tear (wC yX3_tear cX3_tear 2 (Option.some Jvm.ClassFile.FieldType.int))) := WL_v wm_L_149 wn_X3_tear wl_X3_tear wi_X3 wc_X3_tear
theorem hd_X3_tear : yX3_tear.cls = yX3_tear.cls ∧ yX3_tear.cls ≠ "java/lang/invoke/MethodHandle" ∧ yX3_tear.cls ≠ "java/lang/invoke/VarHandle" ∧ (parseMethodDescriptor yX3_tear.desc).map (fun d => d.parameters.length) = some 0 := by decide +kernel
theorem gv_L_153 : GoodIn WL (wsV RL 153 yX3_count.cls yX3_count (wC yX3_count cX3_count 2 (Option.some Jvm.ClassFile.FieldType.int))) := WL_v wm_L_153 wn_X3_count wl_X3_count wi_X3 wc_X3_count
theorem hd_X3_count : yX3_count.cls = yX3_count.cls ∧ yX3_count.cls ≠ "java/lang/invoke/MethodHandle" ∧ yX3_count.cls ≠ "java/lang/invoke/VarHandle" ∧ (parseMethodDescriptor yX3_count.desc).map (fun d => d.parameters.length) = some 1 := by decide +kernel
theorem gv_L_157 : GoodIn WL (wsV RL 157 yX3_status.cls yX3_status (wC yX3_status cX3_status 4 (Option.some Jvm.ClassFile.FieldType.int))) := WL_v wm_L_157 wn_X3_status wl_X3_status wi_X3 wc_X3_status
theorem hd_X3_status : yX3_status.cls = yX3_status.cls ∧ yX3_status.cls ≠ "java/lang/invoke/MethodHandle" ∧ yX3_status.cls ≠ "java/lang/invoke/VarHandle" ∧ (parseMethodDescriptor yX3_status.desc).map (fun d => d.parameters.length) = some 1 := by decide +kernel
theorem gv_L_17 : GoodIn WL (wsV RL 17 yX4_tacky.cls yX4_tacky (wC yX4_tacky cX4_tacky 2 (Option.some Jvm.ClassFile.FieldType.int))) := WL_v wm_L_17 wn_X4_tacky wl_X4_tacky wi_X4 wc_X4_tacky
theorem hd_X4_tacky : yX4_tacky.cls = yX4_tacky.cls ∧ yX4_tacky.cls ≠ "java/lang/invoke/MethodHandle" ∧ yX4_tacky.cls ≠ "java/lang/invoke/VarHandle" ∧ (parseMethodDescriptor yX4_tacky.desc).map (fun d => d.parameters.length) = some 1 := by decide +kernel
theorem gs_X4_49 : GoodIn WL (va_wsS RX4 49 yX4_in (wC yX4_in cX4_in 6 (Option.some Jvm.ClassFile.FieldType.boolean))) := WL_s wm_X4_49 wt_X4_in wi_X4 wc_X4_in
theorem hd_X4_in : yX4_in.cls ≠ "java/lang/invoke/MethodHandle" ∧ yX4_in.cls ≠ "java/lang/invoke/VarHandle" ∧ (parseMethodDescriptor yX4_in.desc).map (fun d => d.parameters.length) = some 3 := by decide +kernel
theorem gv_X4_60 : GoodIn WL (wsV RX4 60 yX4_becomes.cls yX4_becomes (wC yX4_becomes cX4_becomes 4 (Option.some Jvm.ClassFile.FieldType.int))) := WL_v wm_X4_60 wn_X4_becomes wl_X4_becomes wi_X4 wc_X4_becomes
theorem hd_X4_becomes : yX4_becomes.cls = yX4_becomes.cls ∧ yX4_becomes.cls ≠ "java/lang/invoke/MethodHandle" ∧ yX4_becomes.cls ≠ "java/lang/invoke/VarHandle" ∧ (parseMethodDescriptor yX4_becomes.desc).map (fun d => d.parameters.length) = some 2 := by decide +kernel
theorem gv_X4_63 : GoodIn WL (wsV RX4 63 yX4_finds.cls yX4_finds (wC yX4_finds cX4_finds 2 (Option.some Jvm.ClassFile.FieldType.int))) := WL_v wm_X4_63 wn_X4_finds wl_X4_finds wi_X4 wc_X4_finds
theorem hd_X4_finds : yX4_finds.cls = yX4_finds.cls ∧ yX4_finds.cls ≠ "java/lang/invoke/MethodHandle" ∧ yX4_finds.cls ≠ "java/lang/invoke/VarHandle" ∧ (parseMethodDescriptor yX4_finds.desc).map (fun d => d.parameters.length) = some 1 := by decide +kernel
theorem gv_L_21 : GoodIn WL (wsV RL 21 yX4_now.cls yX4_now (wC yX4_now cX4_now 2 (Option.some Jvm.ClassFile.FieldType.int))) := WL_v wm_L_21 wn_X4_now wl_X4_now wi_X4 wc_X4_now
theorem hd_X4_now : yX4_now.cls = yX4_now.cls ∧ yX4_now.cls ≠ "java/lang/invoke/MethodHandle" ∧ yX4_now.cls ≠ "java/lang/invoke/VarHandle" ∧ (parseMethodDescriptor yX4_now.desc).map (fun d => d.parameters.length) = some 1 := by decide +kernel
theorem gv_X4_67 : GoodIn WL (wsV RX4 67 yX4_ofNight.cls yX4_ofNight (wC yX4_ofNight cX4_ofNight 1 (Option.some Jvm.ClassFile.FieldType.int))) := WL_v wm_X4_67 wn_X4_ofNight wl_X4_ofNight wi_X4 wc_X4_ofNight
theorem hd_X4_ofNight : yX4_ofNight.cls = yX4_ofNight.cls ∧ yX4_ofNight.cls ≠ "java/lang/invoke/MethodHandle" ∧ yX4_ofNight.cls ≠ "java/lang/invoke/VarHandle" ∧ (parseMethodDescriptor yX4_ofNight.desc).map (fun d => d.parameters.length) = some 0 := by decide +kernel
theorem gv_X4_85 : GoodIn WL (wsV RX4 85 yX4_isTacky.cls yX4_isTacky (wC yX4_isTacky cX4_isTacky 1 (Option.some Jvm.ClassFile.FieldType.boolean))) := WL_v wm_X4_85 wn_X4_isTacky wl_X4_isTacky wi_X4 wc_X4_isTacky
theorem hd_X4_isTacky : yX4_isTacky.cls = yX4_isTacky.cls ∧ yX4_isTacky.cls ≠ "java/lang/invoke/MethodHandle" ∧ yX4_isTacky.cls ≠ "java/lang/invoke/VarHandle" ∧ (parseMethodDescriptor yX4_isTacky.desc).map (fun d => d.parameters.length) = some 0 := by decide +kernel
theorem gv_X4_101 : GoodIn WL (wsV RX4 101 yX4_content.cls yX4_content (wC yX4_content cX4_content 3 (Option.some Jvm.ClassFile.FieldType.int))) := WL_v wm_X4_101 wn_X4_content wl_X4_content wi_X4 wc_X4_content
theorem hd_X4_content : yX4_content.cls = yX4_content.cls ∧ yX4_content.cls ≠ "java/lang/invoke/MethodHandle" ∧ yX4_content.cls ≠ "java/lang/invoke/VarHandle" ∧ (parseMethodDescriptor yX4_content.desc).map (fun d => d.parameters.length) = some 0 := by decide +kernel
theorem gv_X4_82 : GoodIn WL (wsV RX4 82 yX4_isContent.cls yX4_isContent (wC yX4_isContent cX4_isContent 2 (Option.some Jvm.ClassFile.FieldType.boolean))) := WL_v wm_X4_82 wn_X4_isContent wl_X4_isContent wi_X4 wc_X4_isContent
theorem hd_X4_isContent : yX4_isContent.cls = yX4_isContent.cls ∧ yX4_isContent.cls ≠ "java/lang/invoke/MethodHandle" ∧ yX4_isContent.cls ≠ "java/lang/invoke/VarHandle" ∧ (parseMethodDescriptor yX4_isContent.desc).map (fun d => d.parameters.length) = some 1 := by decide +kernel
theorem gv_X4_55 : GoodIn WL (wsV RX4 55 yX4_its.cls yX4_its (wC yX4_its cX4_its 3 (Option.some Jvm.ClassFile.FieldType.int))) := WL_v wm_X4_55 wn_X4_its wl_X4_its wi_X4 wc_X4_its
theorem hd_X4_its : yX4_its.cls = yX4_its.cls ∧ yX4_its.cls ≠ "java/lang/invoke/MethodHandle" ∧ yX4_its.cls ≠ "java/lang/invoke/VarHandle" ∧ (parseMethodDescriptor yX4_its.desc).map (fun d => d.parameters.length) = some 2 := by decide +kernel
theorem gs_X4_45 : GoodIn WL (va_wsS RX4 45 yX4_spot (wC yX4_spot cX4_spot 2 (Option.some Jvm.ClassFile.FieldType.int))) := WL_s wm_X4_45 wt_X4_spot wi_X4 wc_X4_spot
theorem hd_X4_spot : yX4_spot.cls ≠ "java/lang/invoke/MethodHandle" ∧ yX4_spot.cls ≠ "java/lang/invoke/VarHandle" ∧ (parseMethodDescriptor yX4_spot.desc).map (fun d => d.parameters.length) = some 2 := by decide +kernel
theorem gv_X4_75 : GoodIn WL (wsV RX4 75 yX4_isWithWhom.cls yX4_isWithWhom (wC yX4_isWithWhom cX4_isWithWhom 3 (Option.some Jvm.ClassFile.FieldType.boolean))) := WL_v wm_X4_75 wn_X4_isWithWhom wl_X4_isWithWhom wi_X4 wc_X4_isWithWhom
theorem hd_X4_isWithWhom : yX4_isWithWhom.cls = yX4_isWithWhom.cls ∧ yX4_isWithWhom.cls ≠ "java/lang/invoke/MethodHandle" ∧ yX4_isWithWhom.cls ≠ "java/lang/invoke/VarHandle" ∧ (parseMethodDescriptor yX4_isWithWhom.desc).map (fun d => d.parameters.length) = some 1 := by decide +kernel
theorem gv_X4_71 : GoodIn WL (wsV RX4 71 yX4_isBeside.cls yX4_isBeside (wC yX4_isBeside cX4_isBeside 3 (Option.some Jvm.ClassFile.FieldType.boolean))) := WL_v wm_X4_71 wn_X4_isBeside wl_X4_isBeside wi_X4 wc_X4_isBeside
theorem hd_X4_isBeside : yX4_isBeside.cls = yX4_isBeside.cls ∧ yX4_isBeside.cls ≠ "java/lang/invoke/MethodHandle" ∧ yX4_isBeside.cls ≠ "java/lang/invoke/VarHandle" ∧ (parseMethodDescriptor yX4_isBeside.desc).map (fun d => d.parameters.length) = some 2 := by decide +kernel
theorem gv_X4_79 : GoodIn WL (wsV RX4 79 yX4_apart.cls yX4_apart (wC yX4_apart cX4_apart 4 (Option.some Jvm.ClassFile.FieldType.int))) := WL_v wm_X4_79 wn_X4_apart wl_X4_apart wi_X4 wc_X4_apart
theorem hd_X4_apart : yX4_apart.cls = yX4_apart.cls ∧ yX4_apart.cls ≠ "java/lang/invoke/MethodHandle" ∧ yX4_apart.cls ≠ "java/lang/invoke/VarHandle" ∧ (parseMethodDescriptor yX4_apart.desc).map (fun d => d.parameters.length) = some 2 := by decide +kernel
theorem gv_X4_104 : GoodIn WL (wsV RX4 104 yX4_waiting.cls yX4_waiting (wC yX4_waiting cX4_waiting 3 (Option.some Jvm.ClassFile.FieldType.int))) := WL_v wm_X4_104 wn_X4_waiting wl_X4_waiting wi_X4 wc_X4_waiting
theorem hd_X4_waiting : yX4_waiting.cls = yX4_waiting.cls ∧ yX4_waiting.cls ≠ "java/lang/invoke/MethodHandle" ∧ yX4_waiting.cls ≠ "java/lang/invoke/VarHandle" ∧ (parseMethodDescriptor yX4_waiting.desc).map (fun d => d.parameters.length) = some 0 := by decide +kernel
theorem gv_X4_98 : GoodIn WL (wsV RX4 98 yX4_isWaiting.cls yX4_isWaiting (wC yX4_isWaiting cX4_isWaiting 4 (Option.some Jvm.ClassFile.FieldType.boolean))) := WL_v wm_X4_98 wn_X4_isWaiting wl_X4_isWaiting wi_X4 wc_X4_isWaiting
theorem hd_X4_isWaiting : yX4_isWaiting.cls = yX4_isWaiting.cls ∧ yX4_isWaiting.cls ≠ "java/lang/invoke/MethodHandle" ∧ yX4_isWaiting.cls ≠ "java/lang/invoke/VarHandle" ∧ (parseMethodDescriptor yX4_isWaiting.desc).map (fun d => d.parameters.length) = some 1 := by decide +kernel
theorem gv_X4_92 : GoodIn WL (wsV RX4 92 yX4_lampsOn.cls yX4_lampsOn (wC yX4_lampsOn cX4_lampsOn 4 (Option.some Jvm.ClassFile.FieldType.int))) := WL_v wm_X4_92 wn_X4_lampsOn wl_X4_lampsOn wi_X4 wc_X4_lampsOn
theorem hd_X4_lampsOn : yX4_lampsOn.cls = yX4_lampsOn.cls ∧ yX4_lampsOn.cls ≠ "java/lang/invoke/MethodHandle" ∧ yX4_lampsOn.cls ≠ "java/lang/invoke/VarHandle" ∧ (parseMethodDescriptor yX4_lampsOn.desc).map (fun d => d.parameters.length) = some 1 := by decide +kernel
theorem gv_X4_95 : GoodIn WL (wsV RX4 95 yX4_isAnyOtherCross.cls yX4_isAnyOtherCross (wC yX4_isAnyOtherCross cX4_isAnyOtherCross 4 (Option.some Jvm.ClassFile.FieldType.boolean))) := WL_v wm_X4_95 wn_X4_isAnyOtherCross wl_X4_isAnyOtherCross wi_X4 wc_X4_isAnyOtherCross
theorem hd_X4_isAnyOtherCross : yX4_isAnyOtherCross.cls = yX4_isAnyOtherCross.cls ∧ yX4_isAnyOtherCross.cls ≠ "java/lang/invoke/MethodHandle" ∧ yX4_isAnyOtherCross.cls ≠ "java/lang/invoke/VarHandle" ∧ (parseMethodDescriptor yX4_isAnyOtherCross.desc).map (fun d => d.parameters.length) = some 1 := by decide +kernel
theorem gv_X4_107 : GoodIn WL (wsV RX4 107 yX4_seenOnes.cls yX4_seenOnes (wC yX4_seenOnes cX4_seenOnes 3 (Option.some Jvm.ClassFile.FieldType.int))) := WL_v wm_X4_107 wn_X4_seenOnes wl_X4_seenOnes wi_X4 wc_X4_seenOnes
theorem hd_X4_seenOnes : yX4_seenOnes.cls = yX4_seenOnes.cls ∧ yX4_seenOnes.cls ≠ "java/lang/invoke/MethodHandle" ∧ yX4_seenOnes.cls ≠ "java/lang/invoke/VarHandle" ∧ (parseMethodDescriptor yX4_seenOnes.desc).map (fun d => d.parameters.length) = some 0 := by decide +kernel
theorem gv_X4_110 : GoodIn WL (wsV RX4 110 yX4_outOnes.cls yX4_outOnes (wC yX4_outOnes cX4_outOnes 3 (Option.some Jvm.ClassFile.FieldType.int))) := WL_v wm_X4_110 wn_X4_outOnes wl_X4_outOnes wi_X4 wc_X4_outOnes
theorem hd_X4_outOnes : yX4_outOnes.cls = yX4_outOnes.cls ∧ yX4_outOnes.cls ≠ "java/lang/invoke/MethodHandle" ∧ yX4_outOnes.cls ≠ "java/lang/invoke/VarHandle" ∧ (parseMethodDescriptor yX4_outOnes.desc).map (fun d => d.parameters.length) = some 0 := by decide +kernel
theorem gv_X4_113 : GoodIn WL (wsV RX4 113 yX4_together.cls yX4_together (wC yX4_together cX4_together 4 (Option.some Jvm.ClassFile.FieldType.int))) := WL_v wm_X4_113 wn_X4_together wl_X4_together wi_X4 wc_X4_together
theorem hd_X4_together : yX4_together.cls = yX4_together.cls ∧ yX4_together.cls ≠ "java/lang/invoke/MethodHandle" ∧ yX4_together.cls ≠ "java/lang/invoke/VarHandle" ∧ (parseMethodDescriptor yX4_together.desc).map (fun d => d.parameters.length) = some 1 := by decide +kernel
theorem gv_L_25 : GoodIn WL (wsV RL 25 yX4_hangs.cls yX4_hangs (wC yX4_hangs cX4_hangs 4 (Option.some Jvm.ClassFile.FieldType.int))) := WL_v wm_L_25 wn_X4_hangs wl_X4_hangs wi_X4 wc_X4_hangs
theorem hd_X4_hangs : yX4_hangs.cls = yX4_hangs.cls ∧ yX4_hangs.cls ≠ "java/lang/invoke/MethodHandle" ∧ yX4_hangs.cls ≠ "java/lang/invoke/VarHandle" ∧ (parseMethodDescriptor yX4_hangs.desc).map (fun d => d.parameters.length) = some 1 := by decide +kernel
theorem gv_L_30 : GoodIn WL (wsV RL 30 yX4_figure.cls yX4_figure (wC yX4_figure cX4_figure 4 (Option.some Jvm.ClassFile.FieldType.int))) := WL_v wm_L_30 wn_X4_figure wl_X4_figure wi_X4 wc_X4_figure
theorem hd_X4_figure : yX4_figure.cls = yX4_figure.cls ∧ yX4_figure.cls ≠ "java/lang/invoke/MethodHandle" ∧ yX4_figure.cls ≠ "java/lang/invoke/VarHandle" ∧ (parseMethodDescriptor yX4_figure.desc).map (fun d => d.parameters.length) = some 3 := by decide +kernel
theorem gs_X4_118 : GoodIn WL (va_wsS RX4 118 yX4_isKind (wC yX4_isKind cX4_isKind 1 (Option.some Jvm.ClassFile.FieldType.boolean))) := WL_s wm_X4_118 wt_X4_isKind wi_X4 wc_X4_isKind
theorem hd_X4_isKind : yX4_isKind.cls ≠ "java/lang/invoke/MethodHandle" ∧ yX4_isKind.cls ≠ "java/lang/invoke/VarHandle" ∧ (parseMethodDescriptor yX4_isKind.desc).map (fun d => d.parameters.length) = some 1 := by decide +kernel
theorem gv_X4_124 : GoodIn WL (wsV RX4 124 yX4_adds.cls yX4_adds (wC yX4_adds cX4_adds 6 (Option.some Jvm.ClassFile.FieldType.int))) := WL_v wm_X4_124 wn_X4_adds wl_X4_adds wi_X4 wc_X4_adds
theorem hd_X4_adds : yX4_adds.cls = yX4_adds.cls ∧ yX4_adds.cls ≠ "java/lang/invoke/MethodHandle" ∧ yX4_adds.cls ≠ "java/lang/invoke/VarHandle" ∧ (parseMethodDescriptor yX4_adds.desc).map (fun d => d.parameters.length) = some 3 := by decide +kernel
theorem gv_L_35 : GoodIn WL (wsV RL 35 yX4_of.cls yX4_of (wC yX4_of cX4_of 3 (Option.some Jvm.ClassFile.FieldType.int))) := WL_v wm_L_35 wn_X4_of wl_X4_of wi_X4 wc_X4_of
theorem hd_X4_of : yX4_of.cls = yX4_of.cls ∧ yX4_of.cls ≠ "java/lang/invoke/MethodHandle" ∧ yX4_of.cls ≠ "java/lang/invoke/VarHandle" ∧ (parseMethodDescriptor yX4_of.desc).map (fun d => d.parameters.length) = some 2 := by decide +kernel
theorem gv_X4_128 : GoodIn WL (wsV RX4 128 yX4_isFigure.cls yX4_isFigure (wC yX4_isFigure cX4_isFigure 2 (Option.some Jvm.ClassFile.FieldType.boolean))) := WL_v wm_X4_128 wn_X4_isFigure wl_X4_isFigure wi_X4 wc_X4_isFigure
theorem hd_X4_isFigure : yX4_isFigure.cls = yX4_isFigure.cls ∧ yX4_isFigure.cls ≠ "java/lang/invoke/MethodHandle" ∧ yX4_isFigure.cls ≠ "java/lang/invoke/VarHandle" ∧ (parseMethodDescriptor yX4_isFigure.desc).map (fun d => d.parameters.length) = some 1 := by decide +kernel
theorem gv_X4_133 : GoodIn WL (wsV RX4 133 yX4_rubsOf.cls yX4_rubsOf (wC yX4_rubsOf cX4_rubsOf 4 (Option.some Jvm.ClassFile.FieldType.int))) := WL_v wm_X4_133 wn_X4_rubsOf wl_X4_rubsOf wi_X4 wc_X4_rubsOf
theorem hd_X4_rubsOf : yX4_rubsOf.cls = yX4_rubsOf.cls ∧ yX4_rubsOf.cls ≠ "java/lang/invoke/MethodHandle" ∧ yX4_rubsOf.cls ≠ "java/lang/invoke/VarHandle" ∧ (parseMethodDescriptor yX4_rubsOf.desc).map (fun d => d.parameters.length) = some 1 := by decide +kernel
theorem gv_X4_89 : GoodIn WL (wsV RX4 89 yX4_beside.cls yX4_beside (wC yX4_beside cX4_beside 4 (Option.some Jvm.ClassFile.FieldType.int))) := WL_v wm_X4_89 wn_X4_beside wl_X4_beside wi_X4 wc_X4_beside
theorem hd_X4_beside : yX4_beside.cls = yX4_beside.cls ∧ yX4_beside.cls ≠ "java/lang/invoke/MethodHandle" ∧ yX4_beside.cls ≠ "java/lang/invoke/VarHandle" ∧ (parseMethodDescriptor yX4_beside.desc).map (fun d => d.parameters.length) = some 1 := by decide +kernel
theorem gv_L_39 : GoodIn WL (wsV RL 39 yX4_set.cls yX4_set (wC yX4_set cX4_set 4 (Option.some Jvm.ClassFile.FieldType.int))) := WL_v wm_L_39 wn_X4_set wl_X4_set wi_X4 wc_X4_set
theorem hd_X4_set : yX4_set.cls = yX4_set.cls ∧ yX4_set.cls ≠ "java/lang/invoke/MethodHandle" ∧ yX4_set.cls ≠ "java/lang/invoke/VarHandle" ∧ (parseMethodDescriptor yX4_set.desc).map (fun d => d.parameters.length) = some 3 := by decide +kernel
theorem gv_X4_142 : GoodIn WL (wsV RX4 142 yX4_isSet.cls yX4_isSet (wC yX4_isSet cX4_isSet 3 (Option.some Jvm.ClassFile.FieldType.boolean))) := WL_v wm_X4_142 wn_X4_isSet wl_X4_isSet wi_X4 wc_X4_isSet
theorem hd_X4_isSet : yX4_isSet.cls = yX4_isSet.cls ∧ yX4_isSet.cls ≠ "java/lang/invoke/MethodHandle" ∧ yX4_isSet.cls ≠ "java/lang/invoke/VarHandle" ∧ (parseMethodDescriptor yX4_isSet.desc).map (fun d => d.parameters.length) = some 2 := by decide +kernel
theorem gv_L_43 : GoodIn WL (wsV RL 43 yX4_seen.cls yX4_seen (wC yX4_seen cX4_seen 2 (Option.some Jvm.ClassFile.FieldType.int))) := WL_v wm_L_43 wn_X4_seen wl_X4_seen wi_X4 wc_X4_seen
theorem hd_X4_seen : yX4_seen.cls = yX4_seen.cls ∧ yX4_seen.cls ≠ "java/lang/invoke/MethodHandle" ∧ yX4_seen.cls ≠ "java/lang/invoke/VarHandle" ∧ (parseMethodDescriptor yX4_seen.desc).map (fun d => d.parameters.length) = some 1 := by decide +kernel
theorem gv_L_47 : GoodIn WL (wsV RL 47 yX4_turn.cls yX4_turn (wC yX4_turn cX4_turn 3 (Option.some Jvm.ClassFile.FieldType.int))) := WL_v wm_L_47 wn_X4_turn wl_X4_turn wi_X4 wc_X4_turn
theorem hd_X4_turn : yX4_turn.cls = yX4_turn.cls ∧ yX4_turn.cls ≠ "java/lang/invoke/MethodHandle" ∧ yX4_turn.cls ≠ "java/lang/invoke/VarHandle" ∧ (parseMethodDescriptor yX4_turn.desc).map (fun d => d.parameters.length) = some 2 := by decide +kernel
theorem gv_L_51 : GoodIn WL (wsV RL 51 yX4_as.cls yX4_as (wC yX4_as cX4_as 3 (Option.some Jvm.ClassFile.FieldType.int))) := WL_v wm_L_51 wn_X4_as wl_X4_as wi_X4 wc_X4_as
theorem hd_X4_as : yX4_as.cls = yX4_as.cls ∧ yX4_as.cls ≠ "java/lang/invoke/MethodHandle" ∧ yX4_as.cls ≠ "java/lang/invoke/VarHandle" ∧ (parseMethodDescriptor yX4_as.desc).map (fun d => d.parameters.length) = some 2 := by decide +kernel
theorem gs_X4_145 : GoodIn WL (va_wsS RX4 145 yX4_isUnder (wC yX4_isUnder cX4_isUnder 2 (Option.some Jvm.ClassFile.FieldType.boolean))) := WL_s wm_X4_145 wt_X4_isUnder wi_X4 wc_X4_isUnder
theorem hd_X4_isUnder : yX4_isUnder.cls ≠ "java/lang/invoke/MethodHandle" ∧ yX4_isUnder.cls ≠ "java/lang/invoke/VarHandle" ∧ (parseMethodDescriptor yX4_isUnder.desc).map (fun d => d.parameters.length) = some 2 := by decide +kernel
theorem gv_L_55 : GoodIn WL (wsV RL 55 yX4_hours.cls yX4_hours (wC yX4_hours cX4_hours 2 (Option.some Jvm.ClassFile.FieldType.int))) := WL_v wm_L_55 wn_X4_hours wl_X4_hours wi_X4 wc_X4_hours
theorem hd_X4_hours : yX4_hours.cls = yX4_hours.cls ∧ yX4_hours.cls ≠ "java/lang/invoke/MethodHandle" ∧ yX4_hours.cls ≠ "java/lang/invoke/VarHandle" ∧ (parseMethodDescriptor yX4_hours.desc).map (fun d => d.parameters.length) = some 1 := by decide +kernel
theorem gv_X4_166 : GoodIn WL (wsV RX4 166 yX4_hoursGo.cls yX4_hoursGo (wC yX4_hoursGo cX4_hoursGo 3 (Option.none : Option Jvm.ClassFile.FieldType))) := WL_v wm_X4_166 wn_X4_hoursGo wl_X4_hoursGo wi_X4 wc_X4_hoursGo
theorem hd_X4_hoursGo : yX4_hoursGo.cls = yX4_hoursGo.cls ∧ yX4_hoursGo.cls ≠ "java/lang/invoke/MethodHandle" ∧ yX4_hoursGo.cls ≠ "java/lang/invoke/VarHandle" ∧ (parseMethodDescriptor yX4_hoursGo.desc).map (fun d => d.parameters.length) = some 1 := by decide +kernel
theorem gv_X4_159 : GoodIn WL (wsV RX4 159 yX4_hour.cls yX4_hour (wC yX4_hour cX4_hour 2 (Option.none : Option Jvm.ClassFile.FieldType))) := WL_v wm_X4_159 wn_X4_hour wl_X4_hour wi_X4 wc_X4_hour
theorem hd_X4_hour : yX4_hour.cls = yX4_hour.cls ∧ yX4_hour.cls ≠ "java/lang/invoke/MethodHandle" ∧ yX4_hour.cls ≠ "java/lang/invoke/VarHandle" ∧ (parseMethodDescriptor yX4_hour.desc).map (fun d => d.parameters.length) = some 0 := by decide +kernel
theorem gv_X4_155 : GoodIn WL (wsV RX4 155 yX4_works.cls yX4_works (wC yX4_works cX4_works 6 (Option.none : Option Jvm.ClassFile.FieldType))) := WL_v wm_X4_155 wn_X4_works wl_X4_works wi_X4 wc_X4_works
theorem hd_X4_works : yX4_works.cls = yX4_works.cls ∧ yX4_works.cls ≠ "java/lang/invoke/MethodHandle" ∧ yX4_works.cls ≠ "java/lang/invoke/VarHandle" ∧ (parseMethodDescriptor yX4_works.desc).map (fun d => d.parameters.length) = some 1 := by decide +kernel
theorem gs_X4_149 : GoodIn WL (va_wsS RX4 149 yX4_held (wC yX4_held cX4_held 3 (Option.some Jvm.ClassFile.FieldType.int))) := WL_s wm_X4_149 wt_X4_held wi_X4 wc_X4_held
theorem hd_X4_held : yX4_held.cls ≠ "java/lang/invoke/MethodHandle" ∧ yX4_held.cls ≠ "java/lang/invoke/VarHandle" ∧ (parseMethodDescriptor yX4_held.desc).map (fun d => d.parameters.length) = some 3 := by decide +kernel
theorem gv_X4_152 : GoodIn WL (wsV RX4 152 yX4_columnBy.cls yX4_columnBy (wC yX4_columnBy cX4_columnBy 7 (Option.some Jvm.ClassFile.FieldType.int))) := WL_v wm_X4_152 wn_X4_columnBy wl_X4_columnBy wi_X4 wc_X4_columnBy
theorem hd_X4_columnBy : yX4_columnBy.cls = yX4_columnBy.cls ∧ yX4_columnBy.cls ≠ "java/lang/invoke/MethodHandle" ∧ yX4_columnBy.cls ≠ "java/lang/invoke/VarHandle" ∧ (parseMethodDescriptor yX4_columnBy.desc).map (fun d => d.parameters.length) = some 2 := by decide +kernel
theorem gv_L_59 : GoodIn WL (wsV RL 59 yX4_on.cls yX4_on (wC yX4_on cX4_on 4 (Option.some Jvm.ClassFile.FieldType.int))) := WL_v wm_L_59 wn_X4_on wl_X4_on wi_X4 wc_X4_on
theorem hd_X4_on : yX4_on.cls = yX4_on.cls ∧ yX4_on.cls ≠ "java/lang/invoke/MethodHandle" ∧ yX4_on.cls ≠ "java/lang/invoke/VarHandle" ∧ (parseMethodDescriptor yX4_on.desc).map (fun d => d.parameters.length) = some 3 := by decide +kernel
theorem gs_X4_180 : GoodIn WL (va_wsS RX4 180 yX4_isAhead (wC yX4_isAhead cX4_isAhead 1 (Option.some Jvm.ClassFile.FieldType.boolean))) := WL_s wm_X4_180 wt_X4_isAhead wi_X4 wc_X4_isAhead
theorem hd_X4_isAhead : yX4_isAhead.cls ≠ "java/lang/invoke/MethodHandle" ∧ yX4_isAhead.cls ≠ "java/lang/invoke/VarHandle" ∧ (parseMethodDescriptor yX4_isAhead.desc).map (fun d => d.parameters.length) = some 1 := by decide +kernel
theorem gv_X4_183 : GoodIn WL (wsV RX4 183 yX4_behind.cls yX4_behind (wC yX4_behind cX4_behind 3 (Option.some Jvm.ClassFile.FieldType.int))) := WL_v wm_X4_183 wn_X4_behind wl_X4_behind wi_X4 wc_X4_behind
theorem hd_X4_behind : yX4_behind.cls = yX4_behind.cls ∧ yX4_behind.cls ≠ "java/lang/invoke/MethodHandle" ∧ yX4_behind.cls ≠ "java/lang/invoke/VarHandle" ∧ (parseMethodDescriptor yX4_behind.desc).map (fun d => d.parameters.length) = some 2 := by decide +kernel
theorem gv_X4_171 : GoodIn WL (wsV RX4 171 yX4_laysAside.cls yX4_laysAside (wC yX4_laysAside cX4_laysAside 2 (Option.none : Option Jvm.ClassFile.FieldType))) := WL_v wm_X4_171 wn_X4_laysAside wl_X4_laysAside wi_X4 wc_X4_laysAside
theorem hd_X4_laysAside : yX4_laysAside.cls = yX4_laysAside.cls ∧ yX4_laysAside.cls ≠ "java/lang/invoke/MethodHandle" ∧ yX4_laysAside.cls ≠ "java/lang/invoke/VarHandle" ∧ (parseMethodDescriptor yX4_laysAside.desc).map (fun d => d.parameters.length) = some 0 := by decide +kernel
theorem gv_X4_174 : GoodIn WL (wsV RX4 174 yX4_takesBack.cls yX4_takesBack (wC yX4_takesBack cX4_takesBack 3 (Option.some Jvm.ClassFile.FieldType.int))) := WL_v wm_X4_174 wn_X4_takesBack wl_X4_takesBack wi_X4 wc_X4_takesBack
theorem hd_X4_takesBack : yX4_takesBack.cls = yX4_takesBack.cls ∧ yX4_takesBack.cls ≠ "java/lang/invoke/MethodHandle" ∧ yX4_takesBack.cls ≠ "java/lang/invoke/VarHandle" ∧ (parseMethodDescriptor yX4_takesBack.desc).map (fun d => d.parameters.length) = some 1 := by decide +kernel
theorem gv_L_63 : GoodIn WL (wsV RL 63 yX4_when.cls yX4_when (wC yX4_when cX4_when 3 (Option.some Jvm.ClassFile.FieldType.int))) := WL_v wm_L_63 wn_X4_when wl_X4_when wi_X4 wc_X4_when
theorem hd_X4_when : yX4_when.cls = yX4_when.cls ∧ yX4_when.cls ≠ "java/lang/invoke/MethodHandle" ∧ yX4_when.cls ≠ "java/lang/invoke/VarHandle" ∧ (parseMethodDescriptor yX4_when.desc).map (fun d => d.parameters.length) = some 1 := by decide +kernel
theorem gv_X4_187 : GoodIn WL (wsV RX4 187 yX4_toldAt.cls yX4_toldAt (wC yX4_toldAt cX4_toldAt 3 (Option.some Jvm.ClassFile.FieldType.int))) := WL_v wm_X4_187 wn_X4_toldAt wl_X4_toldAt wi_X4 wc_X4_toldAt
theorem hd_X4_toldAt : yX4_toldAt.cls = yX4_toldAt.cls ∧ yX4_toldAt.cls ≠ "java/lang/invoke/MethodHandle" ∧ yX4_toldAt.cls ≠ "java/lang/invoke/VarHandle" ∧ (parseMethodDescriptor yX4_toldAt.desc).map (fun d => d.parameters.length) = some 1 := by decide +kernel
theorem gv_L_68 : GoodIn WL (wsV RL 68 yX4_all.cls yX4_all (wC yX4_all cX4_all 2 (Option.some Jvm.ClassFile.FieldType.int))) := WL_v wm_L_68 wn_X4_all wl_X4_all wi_X4 wc_X4_all
theorem hd_X4_all : yX4_all.cls = yX4_all.cls ∧ yX4_all.cls ≠ "java/lang/invoke/MethodHandle" ∧ yX4_all.cls ≠ "java/lang/invoke/VarHandle" ∧ (parseMethodDescriptor yX4_all.desc).map (fun d => d.parameters.length) = some 0 := by decide +kernel
theorem gv_X4_177 : GoodIn WL (wsV RX4 177 yX4_contentMany.cls yX4_contentMany (wC yX4_contentMany cX4_contentMany 3 (Option.some Jvm.ClassFile.FieldType.int))) := WL_v wm_X4_177 wn_X4_contentMany wl_X4_contentMany wi_X4 wc_X4_contentMany
theorem hd_X4_contentMany : yX4_contentMany.cls = yX4_contentMany.cls ∧ yX4_contentMany.cls ≠ "java/lang/invoke/MethodHandle" ∧ yX4_contentMany.cls ≠ "java/lang/invoke/VarHandle" ∧ (parseMethodDescriptor yX4_contentMany.desc).map (fun d => d.parameters.length) = some 0 := by decide +kernel
theorem gv_L_72 : GoodIn WL (wsV RL 72 yX4_many.cls yX4_many (wC yX4_many cX4_many 2 (Option.some Jvm.ClassFile.FieldType.int))) := WL_v wm_L_72 wn_X4_many wl_X4_many wi_X4 wc_X4_many
theorem hd_X4_many : yX4_many.cls = yX4_many.cls ∧ yX4_many.cls ≠ "java/lang/invoke/MethodHandle" ∧ yX4_many.cls ≠ "java/lang/invoke/VarHandle" ∧ (parseMethodDescriptor yX4_many.desc).map (fun d => d.parameters.length) = some 1 := by decide +kernel
theorem gv_X4_190 : GoodIn WL (wsV RX4 190 yX4_manyBehind.cls yX4_manyBehind (wC yX4_manyBehind cX4_manyBehind 2 (Option.some Jvm.ClassFile.FieldType.int))) := WL_v wm_X4_190 wn_X4_manyBehind wl_X4_manyBehind wi_X4 wc_X4_manyBehind
theorem hd_X4_manyBehind : yX4_manyBehind.cls = yX4_manyBehind.cls ∧ yX4_manyBehind.cls ≠ "java/lang/invoke/MethodHandle" ∧ yX4_manyBehind.cls ≠ "java/lang/invoke/VarHandle" ∧ (parseMethodDescriptor yX4_manyBehind.desc).map (fun d => d.parameters.length) = some 1 := by decide +kernel
theorem gv_L_76 : GoodIn WL (wsV RL 76 yX4_porter.cls yX4_porter (wC yX4_porter cX4_porter 6 (Option.some Jvm.ClassFile.FieldType.int))) := WL_v wm_L_76 wn_X4_porter wl_X4_porter wi_X4 wc_X4_porter
theorem hd_X4_porter : yX4_porter.cls = yX4_porter.cls ∧ yX4_porter.cls ≠ "java/lang/invoke/MethodHandle" ∧ yX4_porter.cls ≠ "java/lang/invoke/VarHandle" ∧ (parseMethodDescriptor yX4_porter.desc).map (fun d => d.parameters.length) = some 1 := by decide +kernel
theorem gs_X4_195 : GoodIn WL (va_wsS RX4 195 yX4_isSoon (wC yX4_isSoon cX4_isSoon 1 (Option.some Jvm.ClassFile.FieldType.boolean))) := WL_s wm_X4_195 wt_X4_isSoon wi_X4 wc_X4_isSoon
theorem hd_X4_isSoon : yX4_isSoon.cls ≠ "java/lang/invoke/MethodHandle" ∧ yX4_isSoon.cls ≠ "java/lang/invoke/VarHandle" ∧ (parseMethodDescriptor yX4_isSoon.desc).map (fun d => d.parameters.length) = some 1 := by decide +kernel
theorem gv_L_80 : GoodIn WL (wsV RL 80 yX4_by.cls yX4_by (wC yX4_by cX4_by 6 (Option.some Jvm.ClassFile.FieldType.int))) := WL_v wm_L_80 wn_X4_by wl_X4_by wi_X4 wc_X4_by
theorem hd_X4_by : yX4_by.cls = yX4_by.cls ∧ yX4_by.cls ≠ "java/lang/invoke/MethodHandle" ∧ yX4_by.cls ≠ "java/lang/invoke/VarHandle" ∧ (parseMethodDescriptor yX4_by.desc).map (fun d => d.parameters.length) = some 2 := by decide +kernel
theorem gv_L_84 : GoodIn WL (wsV RL 84 yX4_kind.cls yX4_kind (wC yX4_kind cX4_kind 8 (Option.some Jvm.ClassFile.FieldType.int))) := WL_v wm_L_84 wn_X4_kind wl_X4_kind wi_X4 wc_X4_kind
theorem hd_X4_kind : yX4_kind.cls = yX4_kind.cls ∧ yX4_kind.cls ≠ "java/lang/invoke/MethodHandle" ∧ yX4_kind.cls ≠ "java/lang/invoke/VarHandle" ∧ (parseMethodDescriptor yX4_kind.desc).map (fun d => d.parameters.length) = some 2 := by decide +kernel
theorem gv_L_88 : GoodIn WL (wsV RL 88 yX4_place.cls yX4_place (wC yX4_place cX4_place 3 (Option.some Jvm.ClassFile.FieldType.int))) := WL_v wm_L_88 wn_X4_place wl_X4_place wi_X4 wc_X4_place
theorem hd_X4_place : yX4_place.cls = yX4_place.cls ∧ yX4_place.cls ≠ "java/lang/invoke/MethodHandle" ∧ yX4_place.cls ≠ "java/lang/invoke/VarHandle" ∧ (parseMethodDescriptor yX4_place.desc).map (fun d => d.parameters.length) = some 2 := by decide +kernel
theorem gv_X4_200 : GoodIn WL (wsV RX4 200 yX4_mostBy.cls yX4_mostBy (wC yX4_mostBy cX4_mostBy 9 (Option.some Jvm.ClassFile.FieldType.int))) := WL_v wm_X4_200 wn_X4_mostBy wl_X4_mostBy wi_X4 wc_X4_mostBy
theorem hd_X4_mostBy : yX4_mostBy.cls = yX4_mostBy.cls ∧ yX4_mostBy.cls ≠ "java/lang/invoke/MethodHandle" ∧ yX4_mostBy.cls ≠ "java/lang/invoke/VarHandle" ∧ (parseMethodDescriptor yX4_mostBy.desc).map (fun d => d.parameters.length) = some 3 := by decide +kernel
theorem gv_L_92 : GoodIn WL (wsV RL 92 yX4_clash.cls yX4_clash (wC yX4_clash cX4_clash 5 (Option.some Jvm.ClassFile.FieldType.int))) := WL_v wm_L_92 wn_X4_clash wl_X4_clash wi_X4 wc_X4_clash
theorem hd_X4_clash : yX4_clash.cls = yX4_clash.cls ∧ yX4_clash.cls ≠ "java/lang/invoke/MethodHandle" ∧ yX4_clash.cls ≠ "java/lang/invoke/VarHandle" ∧ (parseMethodDescriptor yX4_clash.desc).map (fun d => d.parameters.length) = some 1 := by decide +kernel
theorem gv_X4_203 : GoodIn WL (wsV RX4 203 yX4_isClash.cls yX4_isClash (wC yX4_isClash cX4_isClash 10 (Option.some Jvm.ClassFile.FieldType.boolean))) := WL_v wm_X4_203 wn_X4_isClash wl_X4_isClash wi_X4 wc_X4_isClash
theorem hd_X4_isClash : yX4_isClash.cls = yX4_isClash.cls ∧ yX4_isClash.cls ≠ "java/lang/invoke/MethodHandle" ∧ yX4_isClash.cls ≠ "java/lang/invoke/VarHandle" ∧ (parseMethodDescriptor yX4_isClash.desc).map (fun d => d.parameters.length) = some 3 := by decide +kernel
theorem gv_L_96 : GoodIn WL (wsV RL 96 yX4_want.cls yX4_want (wC yX4_want cX4_want 3 (Option.some Jvm.ClassFile.FieldType.int))) := WL_v wm_L_96 wn_X4_want wl_X4_want wi_X4 wc_X4_want
theorem hd_X4_want : yX4_want.cls = yX4_want.cls ∧ yX4_want.cls ≠ "java/lang/invoke/MethodHandle" ∧ yX4_want.cls ≠ "java/lang/invoke/VarHandle" ∧ (parseMethodDescriptor yX4_want.desc).map (fun d => d.parameters.length) = some 2 := by decide +kernel
theorem gv_L_100 : GoodIn WL (wsV RL 100 yX4_nose.cls yX4_nose (wC yX4_nose cX4_nose 7 (Option.some Jvm.ClassFile.FieldType.int))) := WL_v wm_L_100 wn_X4_nose wl_X4_nose wi_X4 wc_X4_nose
theorem hd_X4_nose : yX4_nose.cls = yX4_nose.cls ∧ yX4_nose.cls ≠ "java/lang/invoke/MethodHandle" ∧ yX4_nose.cls ≠ "java/lang/invoke/VarHandle" ∧ (parseMethodDescriptor yX4_nose.desc).map (fun d => d.parameters.length) = some 2 := by decide +kernel
theorem gv_L_104 : GoodIn WL (wsV RL 104 yX4_feed.cls yX4_feed (wC yX4_feed cX4_feed 4 (Option.some Jvm.ClassFile.FieldType.int))) := WL_v wm_L_104 wn_X4_feed wl_X4_feed wi_X4 wc_X4_feed
theorem hd_X4_feed : yX4_feed.cls = yX4_feed.cls ∧ yX4_feed.cls ≠ "java/lang/invoke/MethodHandle" ∧ yX4_feed.cls ≠ "java/lang/invoke/VarHandle" ∧ (parseMethodDescriptor yX4_feed.desc).map (fun d => d.parameters.length) = some 2 := by decide +kernel
theorem gv_L_108 : GoodIn WL (wsV RL 108 yX4_wipe.cls yX4_wipe (wC yX4_wipe cX4_wipe 2 (Option.some Jvm.ClassFile.FieldType.int))) := WL_v wm_L_108 wn_X4_wipe wl_X4_wipe wi_X4 wc_X4_wipe
theorem hd_X4_wipe : yX4_wipe.cls = yX4_wipe.cls ∧ yX4_wipe.cls ≠ "java/lang/invoke/MethodHandle" ∧ yX4_wipe.cls ≠ "java/lang/invoke/VarHandle" ∧ (parseMethodDescriptor yX4_wipe.desc).map (fun d => d.parameters.length) = some 0 := by decide +kernel
theorem gv_L_112 : GoodIn WL (wsV RL 112 yX4_night.cls yX4_night (wC yX4_night cX4_night 2 (Option.some Jvm.ClassFile.FieldType.int))) := WL_v wm_L_112 wn_X4_night wl_X4_night wi_X4 wc_X4_night
theorem hd_X4_night : yX4_night.cls = yX4_night.cls ∧ yX4_night.cls ≠ "java/lang/invoke/MethodHandle" ∧ yX4_night.cls ≠ "java/lang/invoke/VarHandle" ∧ (parseMethodDescriptor yX4_night.desc).map (fun d => d.parameters.length) = some 0 := by decide +kernel
theorem gv_X4_310 : GoodIn WL (wsV RX4 310 yX4_saves.cls yX4_saves (wC yX4_saves cX4_saves 2 (Option.none : Option Jvm.ClassFile.FieldType))) := WL_v wm_X4_310 wn_X4_saves wl_X4_saves wi_X4 wc_X4_saves
theorem hd_X4_saves : yX4_saves.cls = yX4_saves.cls ∧ yX4_saves.cls ≠ "java/lang/invoke/MethodHandle" ∧ yX4_saves.cls ≠ "java/lang/invoke/VarHandle" ∧ (parseMethodDescriptor yX4_saves.desc).map (fun d => d.parameters.length) = some 0 := by decide +kernel
theorem gv_X4_238 : GoodIn WL (wsV RX4 238 yX4_token.cls yX4_token (wC yX4_token cX4_token 3 (Option.none : Option Jvm.ClassFile.FieldType))) := WL_v wm_X4_238 wn_X4_token wl_X4_token wi_X4 wc_X4_token
theorem hd_X4_token : yX4_token.cls = yX4_token.cls ∧ yX4_token.cls ≠ "java/lang/invoke/MethodHandle" ∧ yX4_token.cls ≠ "java/lang/invoke/VarHandle" ∧ (parseMethodDescriptor yX4_token.desc).map (fun d => d.parameters.length) = some 0 := by decide +kernel
theorem gv_X4_225 : GoodIn WL (wsV RX4 225 yX4_byteAt.cls yX4_byteAt (wC yX4_byteAt cX4_byteAt 2 (Option.some Jvm.ClassFile.FieldType.int))) := WL_v wm_X4_225 wn_X4_byteAt wl_X4_byteAt wi_X4 wc_X4_byteAt
theorem hd_X4_byteAt : yX4_byteAt.cls = yX4_byteAt.cls ∧ yX4_byteAt.cls ≠ "java/lang/invoke/MethodHandle" ∧ yX4_byteAt.cls ≠ "java/lang/invoke/VarHandle" ∧ (parseMethodDescriptor yX4_byteAt.desc).map (fun d => d.parameters.length) = some 1 := by decide +kernel
theorem gs_X4_228 : GoodIn WL (va_wsS RX4 228 yX4_isLetter (wC yX4_isLetter cX4_isLetter 1 (Option.some Jvm.ClassFile.FieldType.boolean))) := WL_s wm_X4_228 wt_X4_isLetter wi_X4 wc_X4_isLetter
theorem hd_X4_isLetter : yX4_isLetter.cls ≠ "java/lang/invoke/MethodHandle" ∧ yX4_isLetter.cls ≠ "java/lang/invoke/VarHandle" ∧ (parseMethodDescriptor yX4_isLetter.desc).map (fun d => d.parameters.length) = some 1 := by decide +kernel
theorem gs_X4_231 : GoodIn WL (va_wsS RX4 231 yX4_isDigit (wC yX4_isDigit cX4_isDigit 1 (Option.some Jvm.ClassFile.FieldType.boolean))) := WL_s wm_X4_231 wt_X4_isDigit wi_X4 wc_X4_isDigit
theorem hd_X4_isDigit : yX4_isDigit.cls ≠ "java/lang/invoke/MethodHandle" ∧ yX4_isDigit.cls ≠ "java/lang/invoke/VarHandle" ∧ (parseMethodDescriptor yX4_isDigit.desc).map (fun d => d.parameters.length) = some 1 := by decide +kernel
theorem gv_X4_313 : GoodIn WL (wsV RX4 313 yX4_item.cls yX4_item (wC yX4_item cX4_item 4 (Option.none : Option Jvm.ClassFile.FieldType))) := WL_v wm_X4_313 wn_X4_item wl_X4_item wi_X4 wc_X4_item
theorem hd_X4_item : yX4_item.cls = yX4_item.cls ∧ yX4_item.cls ≠ "java/lang/invoke/MethodHandle" ∧ yX4_item.cls ≠ "java/lang/invoke/VarHandle" ∧ (parseMethodDescriptor yX4_item.desc).map (fun d => d.parameters.length) = some 0 := by decide +kernel
theorem gv_X4_287 : GoodIn WL (wsV RX4 287 yX4_kindHere.cls yX4_kindHere (wC yX4_kindHere cX4_kindHere 3 (Option.some Jvm.ClassFile.FieldType.int))) := WL_v wm_X4_287 wn_X4_kindHere wl_X4_kindHere wi_X4 wc_X4_kindHere
theorem hd_X4_kindHere : yX4_kindHere.cls = yX4_kindHere.cls ∧ yX4_kindHere.cls ≠ "java/lang/invoke/MethodHandle" ∧ yX4_kindHere.cls ≠ "java/lang/invoke/VarHandle" ∧ (parseMethodDescriptor yX4_kindHere.desc).map (fun d => d.parameters.length) = some 0 := by decide +kernel
theorem gv_X4_252 : GoodIn WL (wsV RX4 252 yX4_word.cls yX4_word (wC yX4_word cX4_word 4 (Option.some Jvm.ClassFile.FieldType.long))) := WL_v wm_X4_252 wn_X4_word wl_X4_word wi_X4 wc_X4_word
theorem hd_X4_word : yX4_word.cls = yX4_word.cls ∧ yX4_word.cls ≠ "java/lang/invoke/MethodHandle" ∧ yX4_word.cls ≠ "java/lang/invoke/VarHandle" ∧ (parseMethodDescriptor yX4_word.desc).map (fun d => d.parameters.length) = some 0 := by decide +kernel
theorem gv_X4_290 : GoodIn WL (wsV RX4 290 yX4_figureItem.cls yX4_figureItem (wC yX4_figureItem cX4_figureItem 4 (Option.none : Option Jvm.ClassFile.FieldType))) := WL_v wm_X4_290 wn_X4_figureItem wl_X4_figureItem wi_X4 wc_X4_figureItem
theorem hd_X4_figureItem : yX4_figureItem.cls = yX4_figureItem.cls ∧ yX4_figureItem.cls ≠ "java/lang/invoke/MethodHandle" ∧ yX4_figureItem.cls ≠ "java/lang/invoke/VarHandle" ∧ (parseMethodDescriptor yX4_figureItem.desc).map (fun d => d.parameters.length) = some 1 := by decide +kernel
theorem gv_X4_248 : GoodIn WL (wsV RX4 248 yX4_must.cls yX4_must (wC yX4_must cX4_must 2 (Option.none : Option Jvm.ClassFile.FieldType))) := WL_v wm_X4_248 wn_X4_must wl_X4_must wi_X4 wc_X4_must
theorem hd_X4_must : yX4_must.cls = yX4_must.cls ∧ yX4_must.cls ≠ "java/lang/invoke/MethodHandle" ∧ yX4_must.cls ≠ "java/lang/invoke/VarHandle" ∧ (parseMethodDescriptor yX4_must.desc).map (fun d => d.parameters.length) = some 1 := by decide +kernel
theorem gv_X4_278 : GoodIn WL (wsV RX4 278 yX4_number.cls yX4_number (wC yX4_number cX4_number 6 (Option.none : Option Jvm.ClassFile.FieldType))) := WL_v wm_X4_278 wn_X4_number wl_X4_number wi_X4 wc_X4_number
theorem hd_X4_number : yX4_number.cls = yX4_number.cls ∧ yX4_number.cls ≠ "java/lang/invoke/MethodHandle" ∧ yX4_number.cls ≠ "java/lang/invoke/VarHandle" ∧ (parseMethodDescriptor yX4_number.desc).map (fun d => d.parameters.length) = some 2 := by decide +kernel
theorem gv_X4_295 : GoodIn WL (wsV RX4 295 yX4_wantsItem.cls yX4_wantsItem (wC yX4_wantsItem cX4_wantsItem 3 (Option.none : Option Jvm.ClassFile.FieldType))) := WL_v wm_X4_295 wn_X4_wantsItem wl_X4_wantsItem wi_X4 wc_X4_wantsItem
theorem hd_X4_wantsItem : yX4_wantsItem.cls = yX4_wantsItem.cls ∧ yX4_wantsItem.cls ≠ "java/lang/invoke/MethodHandle" ∧ yX4_wantsItem.cls ≠ "java/lang/invoke/VarHandle" ∧ (parseMethodDescriptor yX4_wantsItem.desc).map (fun d => d.parameters.length) = some 0 := by decide +kernel
theorem gv_X4_284 : GoodIn WL (wsV RX4 284 yX4_wantHere.cls yX4_wantHere (wC yX4_wantHere cX4_wantHere 3 (Option.some Jvm.ClassFile.FieldType.int))) := WL_v wm_X4_284 wn_X4_wantHere wl_X4_wantHere wi_X4 wc_X4_wantHere
theorem hd_X4_wantHere : yX4_wantHere.cls = yX4_wantHere.cls ∧ yX4_wantHere.cls ≠ "java/lang/invoke/MethodHandle" ∧ yX4_wantHere.cls ≠ "java/lang/invoke/VarHandle" ∧ (parseMethodDescriptor yX4_wantHere.desc).map (fun d => d.parameters.length) = some 0 := by decide +kernel
theorem gv_X4_302 : GoodIn WL (wsV RX4 302 yX4_outItem.cls yX4_outItem (wC yX4_outItem cX4_outItem 2 (Option.none : Option Jvm.ClassFile.FieldType))) := WL_v wm_X4_302 wn_X4_outItem wl_X4_outItem wi_X4 wc_X4_outItem
theorem hd_X4_outItem : yX4_outItem.cls = yX4_outItem.cls ∧ yX4_outItem.cls ≠ "java/lang/invoke/MethodHandle" ∧ yX4_outItem.cls ≠ "java/lang/invoke/VarHandle" ∧ (parseMethodDescriptor yX4_outItem.desc).map (fun d => d.parameters.length) = some 1 := by decide +kernel
theorem gv_X4_307 : GoodIn WL (wsV RX4 307 yX4_tackyItem.cls yX4_tackyItem (wC yX4_tackyItem cX4_tackyItem 1 (Option.none : Option Jvm.ClassFile.FieldType))) := WL_v wm_X4_307 wn_X4_tackyItem wl_X4_tackyItem wi_X4 wc_X4_tackyItem
theorem hd_X4_tackyItem : yX4_tackyItem.cls = yX4_tackyItem.cls ∧ yX4_tackyItem.cls ≠ "java/lang/invoke/MethodHandle" ∧ yX4_tackyItem.cls ≠ "java/lang/invoke/VarHandle" ∧ (parseMethodDescriptor yX4_tackyItem.desc).map (fun d => d.parameters.length) = some 0 := by decide +kernel
theorem gv_X4_316 : GoodIn WL (wsV RX4 316 yX4_putsBack.cls yX4_putsBack (wC yX4_putsBack cX4_putsBack 2 (Option.none : Option Jvm.ClassFile.FieldType))) := WL_v wm_X4_316 wn_X4_putsBack wl_X4_putsBack wi_X4 wc_X4_putsBack
theorem hd_X4_putsBack : yX4_putsBack.cls = yX4_putsBack.cls ∧ yX4_putsBack.cls ≠ "java/lang/invoke/MethodHandle" ∧ yX4_putsBack.cls ≠ "java/lang/invoke/VarHandle" ∧ (parseMethodDescriptor yX4_putsBack.desc).map (fun d => d.parameters.length) = some 0 := by decide +kernel
theorem gv_L_116 : GoodIn WL (wsV RL 116 yX4_sheet.cls yX4_sheet (wC yX4_sheet cX4_sheet 5 (Option.some Jvm.ClassFile.FieldType.int))) := WL_v wm_L_116 wn_X4_sheet wl_X4_sheet wi_X4 wc_X4_sheet
theorem hd_X4_sheet : yX4_sheet.cls = yX4_sheet.cls ∧ yX4_sheet.cls ≠ "java/lang/invoke/MethodHandle" ∧ yX4_sheet.cls ≠ "java/lang/invoke/VarHandle" ∧ (parseMethodDescriptor yX4_sheet.desc).map (fun d => d.parameters.length) = some 3 := by decide +kernel
theorem gs_X4_319 : GoodIn WL (va_wsS RX4 319 yX4_isOne (wC yX4_isOne cX4_isOne 1 (Option.some Jvm.ClassFile.FieldType.boolean))) := WL_s wm_X4_319 wt_X4_isOne wi_X4 wc_X4_isOne
theorem hd_X4_isOne : yX4_isOne.cls ≠ "java/lang/invoke/MethodHandle" ∧ yX4_isOne.cls ≠ "java/lang/invoke/VarHandle" ∧ (parseMethodDescriptor yX4_isOne.desc).map (fun d => d.parameters.length) = some 1 := by decide +kernel
theorem gv_L_123 : GoodIn WL (wsV RL 123 yX4_write.cls yX4_write (wC yX4_write cX4_write 8 (Option.some Jvm.ClassFile.FieldType.long))) := WL_v wm_L_123 wn_X4_write wl_X4_write wi_X4 wc_X4_write
theorem hd_X4_write : yX4_write.cls = yX4_write.cls ∧ yX4_write.cls ≠ "java/lang/invoke/MethodHandle" ∧ yX4_write.cls ≠ "java/lang/invoke/VarHandle" ∧ (parseMethodDescriptor yX4_write.desc).map (fun d => d.parameters.length) = some 3 := by decide +kernel
theorem gv_X4_324 : GoodIn WL (wsV RX4 324 yX4_wrongSheet.cls yX4_wrongSheet (wC yX4_wrongSheet cX4_wrongSheet 2 (Option.some Jvm.ClassFile.FieldType.int))) := WL_v wm_X4_324 wn_X4_wrongSheet wl_X4_wrongSheet wi_X4 wc_X4_wrongSheet
theorem hd_X4_wrongSheet : yX4_wrongSheet.cls = yX4_wrongSheet.cls ∧ yX4_wrongSheet.cls ≠ "java/lang/invoke/MethodHandle" ∧ yX4_wrongSheet.cls ≠ "java/lang/invoke/VarHandle" ∧ (parseMethodDescriptor yX4_wrongSheet.desc).map (fun d => d.parameters.length) = some 1 := by decide +kernel
theorem gs_X4_327 : GoodIn WL (va_wsS RX4 327 yX4_narrowed (wC yX4_narrowed cX4_narrowed 3 (Option.some Jvm.ClassFile.FieldType.long))) := WL_s wm_X4_327 wt_X4_narrowed wi_X4 wc_X4_narrowed
theorem hd_X4_narrowed : yX4_narrowed.cls ≠ "java/lang/invoke/MethodHandle" ∧ yX4_narrowed.cls ≠ "java/lang/invoke/VarHandle" ∧ (parseMethodDescriptor yX4_narrowed.desc).map (fun d => d.parameters.length) = some 2 := by decide +kernel
theorem gv_L_128 : GoodIn WL (wsV RL 128 yX4_copy.cls yX4_copy (wC yX4_copy cX4_copy 7 (Option.some Jvm.ClassFile.FieldType.int))) := WL_v wm_L_128 wn_X4_copy wl_X4_copy wi_X4 wc_X4_copy
theorem hd_X4_copy : yX4_copy.cls = yX4_copy.cls ∧ yX4_copy.cls ≠ "java/lang/invoke/MethodHandle" ∧ yX4_copy.cls ≠ "java/lang/invoke/VarHandle" ∧ (parseMethodDescriptor yX4_copy.desc).map (fun d => d.parameters.length) = some 5 := by decide +kernel
theorem gv_L_132 : GoodIn WL (wsV RL 132 yX4_lays.cls yX4_lays (wC yX4_lays cX4_lays 6 (Option.some Jvm.ClassFile.FieldType.int))) := WL_v wm_L_132 wn_X4_lays wl_X4_lays wi_X4 wc_X4_lays
theorem hd_X4_lays : yX4_lays.cls = yX4_lays.cls ∧ yX4_lays.cls ≠ "java/lang/invoke/MethodHandle" ∧ yX4_lays.cls ≠ "java/lang/invoke/VarHandle" ∧ (parseMethodDescriptor yX4_lays.desc).map (fun d => d.parameters.length) = some 1 := by decide +kernel
theorem gv_L_136 : GoodIn WL (wsV RL 136 yX4_book.cls yX4_book (wC yX4_book cX4_book 5 (Option.some Jvm.ClassFile.FieldType.int))) := WL_v wm_L_136 wn_X4_book wl_X4_book wi_X4 wc_X4_book
theorem hd_X4_book : yX4_book.cls = yX4_book.cls ∧ yX4_book.cls ≠ "java/lang/invoke/MethodHandle" ∧ yX4_book.cls ≠ "java/lang/invoke/VarHandle" ∧ (parseMethodDescriptor yX4_book.desc).map (fun d => d.parameters.length) = some 2 := by decide +kernel
theorem gv_X4_331 : GoodIn WL (wsV RX4 331 yX4_booked.cls yX4_booked (wC yX4_booked cX4_booked 2 (Option.some Jvm.ClassFile.FieldType.int))) := WL_v wm_X4_331 wn_X4_booked wl_X4_booked wi_X4 wc_X4_booked
theorem hd_X4_booked : yX4_booked.cls = yX4_booked.cls ∧ yX4_booked.cls ≠ "java/lang/invoke/MethodHandle" ∧ yX4_booked.cls ≠ "java/lang/invoke/VarHandle" ∧ (parseMethodDescriptor yX4_booked.desc).map (fun d => d.parameters.length) = some 1 := by decide +kernel
theorem gv_L_140 : GoodIn WL (wsV RL 140 yX4_read.cls yX4_read (wC yX4_read cX4_read 6 (Option.some Jvm.ClassFile.FieldType.int))) := WL_v wm_L_140 wn_X4_read wl_X4_read wi_X4 wc_X4_read
theorem hd_X4_read : yX4_read.cls = yX4_read.cls ∧ yX4_read.cls ≠ "java/lang/invoke/MethodHandle" ∧ yX4_read.cls ≠ "java/lang/invoke/VarHandle" ∧ (parseMethodDescriptor yX4_read.desc).map (fun d => d.parameters.length) = some 2 := by decide +kernel
theorem gv_X4_334 : GoodIn WL (wsV RX4 334 yX4_isBook.cls yX4_isBook (wC yX4_isBook cX4_isBook 4 (Option.some Jvm.ClassFile.FieldType.boolean))) := WL_v wm_X4_334 wn_X4_isBook wl_X4_isBook wi_X4 wc_X4_isBook
theorem hd_X4_isBook : yX4_isBook.cls = yX4_isBook.cls ∧ yX4_isBook.cls ≠ "java/lang/invoke/MethodHandle" ∧ yX4_isBook.cls ≠ "java/lang/invoke/VarHandle" ∧ (parseMethodDescriptor yX4_isBook.desc).map (fun d => d.parameters.length) = some 2 := by decide +kernel
theorem gv_L_144 : GoodIn WL (wsV RL 144 yX4_image.cls yX4_image (wC yX4_image cX4_image 2 (Option.some Jvm.ClassFile.FieldType.int))) := WL_v wm_L_144 wn_X4_image wl_X4_image wi_X4 wc_X4_image
theorem hd_X4_image : yX4_image.cls = yX4_image.cls ∧ yX4_image.cls ≠ "java/lang/invoke/MethodHandle" ∧ yX4_image.cls ≠ "java/lang/invoke/VarHandle" ∧ (parseMethodDescriptor yX4_image.desc).map (fun d => d.parameters.length) = some 0 := by decide +kernel
theorem gv_L_148 : GoodIn WL (wsV RL 148 yX4_undo.cls yX4_undo (wC yX4_undo cX4_undo 2 (Option.some Jvm.ClassFile.FieldType.int))) := WL_v wm_L_148 wn_X4_undo wl_X4_undo wi_X4 wc_X4_undo
theorem hd_X4_undo : yX4_undo.cls = yX4_undo.cls ∧ yX4_undo.cls ≠ "java/lang/invoke/MethodHandle" ∧ yX4_undo.cls ≠ "java/lang/invoke/VarHandle" ∧ (parseMethodDescriptor yX4_undo.desc).map (fun d => d.parameters.length) = some 0 := by decide +kernel
theorem gv_L_152 : GoodIn WL (wsV RL 152 yX4_tear.cls yX4_tear (wC yX4_tear cX4_tear 2 (Option.some Jvm.ClassFile.FieldType.int))) := WL_v wm_L_152 wn_X4_tear wl_X4_tear wi_X4 wc_X4_tear
theorem hd_X4_tear : yX4_tear.cls = yX4_tear.cls ∧ yX4_tear.cls ≠ "java/lang/invoke/MethodHandle" ∧ yX4_tear.cls ≠ "java/lang/invoke/VarHandle" ∧ (parseMethodDescriptor yX4_tear.desc).map (fun d => d.parameters.length) = some 0 := by decide +kernel
theorem gv_L_156 : GoodIn WL (wsV RL 156 yX4_count.cls yX4_count (wC yX4_count cX4_count 2 (Option.some Jvm.ClassFile.FieldType.int))) := WL_v wm_L_156 wn_X4_count wl_X4_count wi_X4 wc_X4_count
theorem hd_X4_count : yX4_count.cls = yX4_count.cls ∧ yX4_count.cls ≠ "java/lang/invoke/MethodHandle" ∧ yX4_count.cls ≠ "java/lang/invoke/VarHandle" ∧ (parseMethodDescriptor yX4_count.desc).map (fun d => d.parameters.length) = some 1 := by decide +kernel
theorem gv_L_160 : GoodIn WL (wsV RL 160 yX4_status.cls yX4_status (wC yX4_status cX4_status 4 (Option.some Jvm.ClassFile.FieldType.int))) := WL_v wm_L_160 wn_X4_status wl_X4_status wi_X4 wc_X4_status
theorem hd_X4_status : yX4_status.cls = yX4_status.cls ∧ yX4_status.cls ≠ "java/lang/invoke/MethodHandle" ∧ yX4_status.cls ≠ "java/lang/invoke/VarHandle" ∧ (parseMethodDescriptor yX4_status.desc).map (fun d => d.parameters.length) = some 1 := by decide +kernel
end
section
theorem zz_look : True := trivial
end

section
-- ===== PART A: goes FIRST, ahead of the names: the tables' words, and 'selects' of the private methods out of them =====
/-- a private method of a class that the tables say can be made, by its rows of tables_1 -/
def lw_okq (q : MethodName × Nat) : Prop := (q.1.cls ≠ "java/lang/invoke/MethodHandle" ∧ q.1.cls ≠ "java/lang/invoke/VarHandle") ∧ Cond.instantiable q.1.cls q.2 ∈ tables_1 ∧ Cond.privateMethod q.1 ∈ tables_1 ∧ Cond.instanceMethod q.1 ∈ tables_1
theorem lw_p0 : lw_okq (⟨"java/lang/Throwable", "fillInStackTrace", "(I)Ljava/lang/Throwable;"⟩, 6) := ⟨⟨by decide +kernel, by decide +kernel⟩, List.mem_of_getElem? (i := 182) (by decide +kernel), List.mem_of_getElem? (i := 180) (by decide +kernel), List.mem_of_getElem? (i := 181) (by decide +kernel)⟩
theorem lw_p1 : lw_okq (⟨"MarketAwnings", "numberedStall", "(I)LMarketAwnings$Stall;"⟩, 7) := ⟨⟨by decide +kernel, by decide +kernel⟩, List.mem_of_getElem? (i := 23) (by decide +kernel), List.mem_of_getElem? (i := 243) (by decide +kernel), List.mem_of_getElem? (i := 244) (by decide +kernel)⟩
theorem lw_p2 : lw_okq (⟨"MarketAwnings", "gotBy", "(LMarketAwnings$Stall;)I"⟩, 7) := ⟨⟨by decide +kernel, by decide +kernel⟩, List.mem_of_getElem? (i := 23) (by decide +kernel), List.mem_of_getElem? (i := 252) (by decide +kernel), List.mem_of_getElem? (i := 253) (by decide +kernel)⟩
theorem lw_p3 : lw_okq (⟨"MarketAwnings", "groundAt", "(II)I"⟩, 7) := ⟨⟨by decide +kernel, by decide +kernel⟩, List.mem_of_getElem? (i := 23) (by decide +kernel), List.mem_of_getElem? (i := 256) (by decide +kernel), List.mem_of_getElem? (i := 257) (by decide +kernel)⟩
theorem lw_p4 : lw_okq (⟨"MarketAwnings$Canopy", "openSides", "(II)I"⟩, 5) := ⟨⟨by decide +kernel, by decide +kernel⟩, List.mem_of_getElem? (i := 31) (by decide +kernel), List.mem_of_getElem? (i := 291) (by decide +kernel), List.mem_of_getElem? (i := 292) (by decide +kernel)⟩
theorem lw_p5 : lw_okq (⟨"MarketAwnings$Canopy", "openAt", "(II)I"⟩, 5) := ⟨⟨by decide +kernel, by decide +kernel⟩, List.mem_of_getElem? (i := 31) (by decide +kernel), List.mem_of_getElem? (i := 295) (by decide +kernel), List.mem_of_getElem? (i := 296) (by decide +kernel)⟩
theorem lw_p6 : lw_okq (⟨"MarketAwnings$Canopy", "reach", "(II)V"⟩, 5) := ⟨⟨by decide +kernel, by decide +kernel⟩, List.mem_of_getElem? (i := 31) (by decide +kernel), List.mem_of_getElem? (i := 306) (by decide +kernel), List.mem_of_getElem? (i := 307) (by decide +kernel)⟩
theorem lw_p7 : lw_okq (⟨"MarketAwnings$Canopy", "reachAllFromQueue", "()V"⟩, 5) := ⟨⟨by decide +kernel, by decide +kernel⟩, List.mem_of_getElem? (i := 31) (by decide +kernel), List.mem_of_getElem? (i := 310) (by decide +kernel), List.mem_of_getElem? (i := 311) (by decide +kernel)⟩
theorem lw_p8 : lw_okq (⟨"MarketAwnings", "stallsNotCovered", "()I"⟩, 7) := ⟨⟨by decide +kernel, by decide +kernel⟩, List.mem_of_getElem? (i := 23) (by decide +kernel), List.mem_of_getElem? (i := 315) (by decide +kernel), List.mem_of_getElem? (i := 316) (by decide +kernel)⟩
theorem lw_p9 : lw_okq (⟨"MarketAwnings", "digestOfColumn", "(JI)J"⟩, 7) := ⟨⟨by decide +kernel, by decide +kernel⟩, List.mem_of_getElem? (i := 23) (by decide +kernel), List.mem_of_getElem? (i := 328) (by decide +kernel), List.mem_of_getElem? (i := 329) (by decide +kernel)⟩
theorem lw_p10 : lw_okq (⟨"java/util/ArrayList", "add", "(Ljava/lang/Object;[Ljava/lang/Object;I)V"⟩, 3) := ⟨⟨by decide +kernel, by decide +kernel⟩, List.mem_of_getElem? (i := 37) (by decide +kernel), List.mem_of_getElem? (i := 478) (by decide +kernel), List.mem_of_getElem? (i := 479) (by decide +kernel)⟩
theorem lw_p11 : lw_okq (⟨"java/util/ArrayList", "grow", "()[Ljava/lang/Object;"⟩, 3) := ⟨⟨by decide +kernel, by decide +kernel⟩, List.mem_of_getElem? (i := 37) (by decide +kernel), List.mem_of_getElem? (i := 482) (by decide +kernel), List.mem_of_getElem? (i := 483) (by decide +kernel)⟩
theorem lw_p12 : lw_okq (⟨"java/util/ArrayList", "grow", "(I)[Ljava/lang/Object;"⟩, 3) := ⟨⟨by decide +kernel, by decide +kernel⟩, List.mem_of_getElem? (i := 37) (by decide +kernel), List.mem_of_getElem? (i := 486) (by decide +kernel), List.mem_of_getElem? (i := 487) (by decide +kernel)⟩
theorem lw_p13 : lw_okq (⟨"MarketAwnings$Canopy", "layOver", "(LMarketAwnings$Awning;)V"⟩, 5) := ⟨⟨by decide +kernel, by decide +kernel⟩, List.mem_of_getElem? (i := 31) (by decide +kernel), List.mem_of_getElem? (i := 533) (by decide +kernel), List.mem_of_getElem? (i := 534) (by decide +kernel)⟩
theorem lw_p14 : lw_okq (⟨"java/util/ArrayList", "fastRemove", "([Ljava/lang/Object;I)V"⟩, 3) := ⟨⟨by decide +kernel, by decide +kernel⟩, List.mem_of_getElem? (i := 37) (by decide +kernel), List.mem_of_getElem? (i := 567) (by decide +kernel), List.mem_of_getElem? (i := 568) (by decide +kernel)⟩
theorem lw_p15 : lw_okq (⟨"MarketAwnings", "hasStallAt", "(II)Z"⟩, 7) := ⟨⟨by decide +kernel, by decide +kernel⟩, List.mem_of_getElem? (i := 23) (by decide +kernel), List.mem_of_getElem? (i := 580) (by decide +kernel), List.mem_of_getElem? (i := 581) (by decide +kernel)⟩
def lw_privs_1 : List (MethodName × Nat) := [(⟨"java/lang/Throwable", "fillInStackTrace", "(I)Ljava/lang/Throwable;"⟩, 6), (⟨"MarketAwnings", "numberedStall", "(I)LMarketAwnings$Stall;"⟩, 7), (⟨"MarketAwnings", "gotBy", "(LMarketAwnings$Stall;)I"⟩, 7), (⟨"MarketAwnings", "groundAt", "(II)I"⟩, 7), (⟨"MarketAwnings$Canopy", "openSides", "(II)I"⟩, 5), (⟨"MarketAwnings$Canopy", "openAt", "(II)I"⟩, 5), (⟨"MarketAwnings$Canopy", "reach", "(II)V"⟩, 5), (⟨"MarketAwnings$Canopy", "reachAllFromQueue", "()V"⟩, 5), (⟨"MarketAwnings", "stallsNotCovered", "()I"⟩, 7), (⟨"MarketAwnings", "digestOfColumn", "(JI)J"⟩, 7), (⟨"java/util/ArrayList", "add", "(Ljava/lang/Object;[Ljava/lang/Object;I)V"⟩, 3), (⟨"java/util/ArrayList", "grow", "()[Ljava/lang/Object;"⟩, 3), (⟨"java/util/ArrayList", "grow", "(I)[Ljava/lang/Object;"⟩, 3), (⟨"MarketAwnings$Canopy", "layOver", "(LMarketAwnings$Awning;)V"⟩, 5), (⟨"java/util/ArrayList", "fastRemove", "([Ljava/lang/Object;I)V"⟩, 3), (⟨"MarketAwnings", "hasStallAt", "(II)Z"⟩, 7)]
theorem lw_r1 : ∀ q ∈ lw_privs_1, lw_okq q := List.forall_mem_cons.mpr ⟨lw_p0, List.forall_mem_cons.mpr ⟨lw_p1, List.forall_mem_cons.mpr ⟨lw_p2, List.forall_mem_cons.mpr ⟨lw_p3, List.forall_mem_cons.mpr ⟨lw_p4, List.forall_mem_cons.mpr ⟨lw_p5, List.forall_mem_cons.mpr ⟨lw_p6, List.forall_mem_cons.mpr ⟨lw_p7, List.forall_mem_cons.mpr ⟨lw_p8, List.forall_mem_cons.mpr ⟨lw_p9, List.forall_mem_cons.mpr ⟨lw_p10, List.forall_mem_cons.mpr ⟨lw_p11, List.forall_mem_cons.mpr ⟨lw_p12, List.forall_mem_cons.mpr ⟨lw_p13, List.forall_mem_cons.mpr ⟨lw_p14, List.forall_mem_cons.mpr ⟨lw_p15, fun _ h => absurd h List.not_mem_nil⟩⟩⟩⟩⟩⟩⟩⟩⟩⟩⟩⟩⟩⟩⟩⟩
theorem lw_p16 : lw_okq (⟨"MarketAwnings$Shower", "dry", "()V"⟩, 5) := ⟨⟨by decide +kernel, by decide +kernel⟩, List.mem_of_getElem? (i := 80) (by decide +kernel), List.mem_of_getElem? (i := 619) (by decide +kernel), List.mem_of_getElem? (i := 620) (by decide +kernel)⟩
theorem lw_p17 : lw_okq (⟨"MarketAwnings$Shower", "land", "(IIII)V"⟩, 5) := ⟨⟨by decide +kernel, by decide +kernel⟩, List.mem_of_getElem? (i := 80) (by decide +kernel), List.mem_of_getElem? (i := 624) (by decide +kernel), List.mem_of_getElem? (i := 625) (by decide +kernel)⟩
theorem lw_p18 : lw_okq (⟨"MarketAwnings$Shower", "dripFromLevel", "(I)V"⟩, 5) := ⟨⟨by decide +kernel, by decide +kernel⟩, List.mem_of_getElem? (i := 80) (by decide +kernel), List.mem_of_getElem? (i := 630) (by decide +kernel), List.mem_of_getElem? (i := 631) (by decide +kernel)⟩
theorem lw_p19 : lw_okq (⟨"MarketAwnings$Shower", "drip", "(LMarketAwnings$Awning;I)V"⟩, 5) := ⟨⟨by decide +kernel, by decide +kernel⟩, List.mem_of_getElem? (i := 80) (by decide +kernel), List.mem_of_getElem? (i := 640) (by decide +kernel), List.mem_of_getElem? (i := 641) (by decide +kernel)⟩
theorem lw_p20 : lw_okq (⟨"MarketAwningsModel", "no", "(I)I"⟩, 11) := ⟨⟨by decide +kernel, by decide +kernel⟩, List.mem_of_getElem? (i := 712) (by decide +kernel), List.mem_of_getElem? (i := 763) (by decide +kernel), List.mem_of_getElem? (i := 764) (by decide +kernel)⟩
theorem lw_p21 : lw_okq (⟨"MarketAwningsModel", "isAwning", "(I)Z"⟩, 11) := ⟨⟨by decide +kernel, by decide +kernel⟩, List.mem_of_getElem? (i := 712) (by decide +kernel), List.mem_of_getElem? (i := 775) (by decide +kernel), List.mem_of_getElem? (i := 776) (by decide +kernel)⟩
theorem lw_p22 : lw_okq (⟨"MarketAwningsModel", "of", "(II)I"⟩, 11) := ⟨⟨by decide +kernel, by decide +kernel⟩, List.mem_of_getElem? (i := 712) (by decide +kernel), List.mem_of_getElem? (i := 779) (by decide +kernel), List.mem_of_getElem? (i := 780) (by decide +kernel)⟩
theorem lw_p23 : lw_okq (⟨"MarketAwningsModel", "isOut", "(I)Z"⟩, 11) := ⟨⟨by decide +kernel, by decide +kernel⟩, List.mem_of_getElem? (i := 712) (by decide +kernel), List.mem_of_getElem? (i := 783) (by decide +kernel), List.mem_of_getElem? (i := 784) (by decide +kernel)⟩
theorem lw_p24 : lw_okq (⟨"MarketAwningsModel", "counted", "(I)I"⟩, 11) := ⟨⟨by decide +kernel, by decide +kernel⟩, List.mem_of_getElem? (i := 712) (by decide +kernel), List.mem_of_getElem? (i := 791) (by decide +kernel), List.mem_of_getElem? (i := 792) (by decide +kernel)⟩
theorem lw_p25 : lw_okq (⟨"MarketAwningsModel", "out", "()I"⟩, 11) := ⟨⟨by decide +kernel, by decide +kernel⟩, List.mem_of_getElem? (i := 712) (by decide +kernel), List.mem_of_getElem? (i := 795) (by decide +kernel), List.mem_of_getElem? (i := 796) (by decide +kernel)⟩
theorem lw_p26 : lw_okq (⟨"MarketAwningsModel", "outline", "()I"⟩, 11) := ⟨⟨by decide +kernel, by decide +kernel⟩, List.mem_of_getElem? (i := 712) (by decide +kernel), List.mem_of_getElem? (i := 799) (by decide +kernel), List.mem_of_getElem? (i := 800) (by decide +kernel)⟩
theorem lw_p27 : lw_okq (⟨"MarketAwningsModel", "covered", "(I)I"⟩, 11) := ⟨⟨by decide +kernel, by decide +kernel⟩, List.mem_of_getElem? (i := 712) (by decide +kernel), List.mem_of_getElem? (i := 803) (by decide +kernel), List.mem_of_getElem? (i := 804) (by decide +kernel)⟩
theorem lw_p28 : lw_okq (⟨"MarketAwningsModel", "covered", "(II)I"⟩, 11) := ⟨⟨by decide +kernel, by decide +kernel⟩, List.mem_of_getElem? (i := 712) (by decide +kernel), List.mem_of_getElem? (i := 807) (by decide +kernel), List.mem_of_getElem? (i := 808) (by decide +kernel)⟩
theorem lw_p29 : lw_okq (⟨"MarketAwningsModel", "bits", "(II)I"⟩, 11) := ⟨⟨by decide +kernel, by decide +kernel⟩, List.mem_of_getElem? (i := 712) (by decide +kernel), List.mem_of_getElem? (i := 811) (by decide +kernel), List.mem_of_getElem? (i := 812) (by decide +kernel)⟩
theorem lw_p30 : lw_okq (⟨"MarketAwningsModel", "parts", "()I"⟩, 11) := ⟨⟨by decide +kernel, by decide +kernel⟩, List.mem_of_getElem? (i := 712) (by decide +kernel), List.mem_of_getElem? (i := 821) (by decide +kernel), List.mem_of_getElem? (i := 822) (by decide +kernel)⟩
theorem lw_p31 : lw_okq (⟨"MarketAwningsModel", "open", "()I"⟩, 11) := ⟨⟨by decide +kernel, by decide +kernel⟩, List.mem_of_getElem? (i := 712) (by decide +kernel), List.mem_of_getElem? (i := 828) (by decide +kernel), List.mem_of_getElem? (i := 829) (by decide +kernel)⟩
def lw_privs_2 : List (MethodName × Nat) := [(⟨"MarketAwnings$Shower", "dry", "()V"⟩, 5), (⟨"MarketAwnings$Shower", "land", "(IIII)V"⟩, 5), (⟨"MarketAwnings$Shower", "dripFromLevel", "(I)V"⟩, 5), (⟨"MarketAwnings$Shower", "drip", "(LMarketAwnings$Awning;I)V"⟩, 5), (⟨"MarketAwningsModel", "no", "(I)I"⟩, 11), (⟨"MarketAwningsModel", "isAwning", "(I)Z"⟩, 11), (⟨"MarketAwningsModel", "of", "(II)I"⟩, 11), (⟨"MarketAwningsModel", "isOut", "(I)Z"⟩, 11), (⟨"MarketAwningsModel", "counted", "(I)I"⟩, 11), (⟨"MarketAwningsModel", "out", "()I"⟩, 11), (⟨"MarketAwningsModel", "outline", "()I"⟩, 11), (⟨"MarketAwningsModel", "covered", "(I)I"⟩, 11), (⟨"MarketAwningsModel", "covered", "(II)I"⟩, 11), (⟨"MarketAwningsModel", "bits", "(II)I"⟩, 11), (⟨"MarketAwningsModel", "parts", "()I"⟩, 11), (⟨"MarketAwningsModel", "open", "()I"⟩, 11)]
theorem lw_r2 : ∀ q ∈ lw_privs_2, lw_okq q := List.forall_mem_cons.mpr ⟨lw_p16, List.forall_mem_cons.mpr ⟨lw_p17, List.forall_mem_cons.mpr ⟨lw_p18, List.forall_mem_cons.mpr ⟨lw_p19, List.forall_mem_cons.mpr ⟨lw_p20, List.forall_mem_cons.mpr ⟨lw_p21, List.forall_mem_cons.mpr ⟨lw_p22, List.forall_mem_cons.mpr ⟨lw_p23, List.forall_mem_cons.mpr ⟨lw_p24, List.forall_mem_cons.mpr ⟨lw_p25, List.forall_mem_cons.mpr ⟨lw_p26, List.forall_mem_cons.mpr ⟨lw_p27, List.forall_mem_cons.mpr ⟨lw_p28, List.forall_mem_cons.mpr ⟨lw_p29, List.forall_mem_cons.mpr ⟨lw_p30, List.forall_mem_cons.mpr ⟨lw_p31, fun _ h => absurd h List.not_mem_nil⟩⟩⟩⟩⟩⟩⟩⟩⟩⟩⟩⟩⟩⟩⟩⟩
theorem lw_p32 : lw_okq (⟨"MarketAwningsModel", "stallTold", "(II)I"⟩, 11) := ⟨⟨by decide +kernel, by decide +kernel⟩, List.mem_of_getElem? (i := 712) (by decide +kernel), List.mem_of_getElem? (i := 832) (by decide +kernel), List.mem_of_getElem? (i := 833) (by decide +kernel)⟩
theorem lw_p33 : lw_okq (⟨"MarketAwningsModel", "got", "(I)I"⟩, 11) := ⟨⟨by decide +kernel, by decide +kernel⟩, List.mem_of_getElem? (i := 712) (by decide +kernel), List.mem_of_getElem? (i := 836) (by decide +kernel), List.mem_of_getElem? (i := 837) (by decide +kernel)⟩
theorem lw_p34 : lw_okq (⟨"MarketAwningsModel", "lying", "(II)I"⟩, 11) := ⟨⟨by decide +kernel, by decide +kernel⟩, List.mem_of_getElem? (i := 712) (by decide +kernel), List.mem_of_getElem? (i := 840) (by decide +kernel), List.mem_of_getElem? (i := 841) (by decide +kernel)⟩
theorem lw_p35 : lw_okq (⟨"MarketAwningsModel", "sumOf", "(I)I"⟩, 11) := ⟨⟨by decide +kernel, by decide +kernel⟩, List.mem_of_getElem? (i := 712) (by decide +kernel), List.mem_of_getElem? (i := 844) (by decide +kernel), List.mem_of_getElem? (i := 845) (by decide +kernel)⟩
theorem lw_p36 : lw_okq (⟨"MarketAwningsModel", "pour", "(I)I"⟩, 11) := ⟨⟨by decide +kernel, by decide +kernel⟩, List.mem_of_getElem? (i := 712) (by decide +kernel), List.mem_of_getElem? (i := 863) (by decide +kernel), List.mem_of_getElem? (i := 864) (by decide +kernel)⟩
theorem lw_p37 : lw_okq (⟨"MarketAwningsModel", "fall", "(IIII)V"⟩, 11) := ⟨⟨by decide +kernel, by decide +kernel⟩, List.mem_of_getElem? (i := 712) (by decide +kernel), List.mem_of_getElem? (i := 867) (by decide +kernel), List.mem_of_getElem? (i := 868) (by decide +kernel)⟩
theorem lw_p38 : lw_okq (⟨"MarketAwningsModel", "highest", "(III)I"⟩, 11) := ⟨⟨by decide +kernel, by decide +kernel⟩, List.mem_of_getElem? (i := 712) (by decide +kernel), List.mem_of_getElem? (i := 871) (by decide +kernel), List.mem_of_getElem? (i := 872) (by decide +kernel)⟩
theorem lw_p39 : lw_okq (⟨"MarketAwningsModel", "below", "(I)I"⟩, 11) := ⟨⟨by decide +kernel, by decide +kernel⟩, List.mem_of_getElem? (i := 712) (by decide +kernel), List.mem_of_getElem? (i := 875) (by decide +kernel), List.mem_of_getElem? (i := 876) (by decide +kernel)⟩
theorem lw_p40 : lw_okq (⟨"MarketAwningsModel", "isHigher", "(II)Z"⟩, 11) := ⟨⟨by decide +kernel, by decide +kernel⟩, List.mem_of_getElem? (i := 712) (by decide +kernel), List.mem_of_getElem? (i := 879) (by decide +kernel), List.mem_of_getElem? (i := 880) (by decide +kernel)⟩
theorem lw_p41 : lw_okq (⟨"MarketAwningsModel", "drip", "(I)I"⟩, 11) := ⟨⟨by decide +kernel, by decide +kernel⟩, List.mem_of_getElem? (i := 712) (by decide +kernel), List.mem_of_getElem? (i := 883) (by decide +kernel), List.mem_of_getElem? (i := 884) (by decide +kernel)⟩
theorem lw_p42 : lw_okq (⟨"MarketAwningsModel", "awningTold", "(II)I"⟩, 11) := ⟨⟨by decide +kernel, by decide +kernel⟩, List.mem_of_getElem? (i := 712) (by decide +kernel), List.mem_of_getElem? (i := 891) (by decide +kernel), List.mem_of_getElem? (i := 892) (by decide +kernel)⟩
theorem lw_p43 : lw_okq (⟨"MarketAwningsModel", "own", "(I)I"⟩, 11) := ⟨⟨by decide +kernel, by decide +kernel⟩, List.mem_of_getElem? (i := 712) (by decide +kernel), List.mem_of_getElem? (i := 895) (by decide +kernel), List.mem_of_getElem? (i := 896) (by decide +kernel)⟩
theorem lw_p44 : lw_okq (⟨"MarketAwningsModel", "cellTold", "(III)I"⟩, 11) := ⟨⟨by decide +kernel, by decide +kernel⟩, List.mem_of_getElem? (i := 712) (by decide +kernel), List.mem_of_getElem? (i := 903) (by decide +kernel), List.mem_of_getElem? (i := 904) (by decide +kernel)⟩
theorem lw_p45 : lw_okq (⟨"MarketAwningsModel", "cordTold", "(II)I"⟩, 11) := ⟨⟨by decide +kernel, by decide +kernel⟩, List.mem_of_getElem? (i := 712) (by decide +kernel), List.mem_of_getElem? (i := 911) (by decide +kernel), List.mem_of_getElem? (i := 912) (by decide +kernel)⟩
theorem lw_p46 : lw_okq (⟨"MarketAwningsModel", "deepest", "(I)I"⟩, 11) := ⟨⟨by decide +kernel, by decide +kernel⟩, List.mem_of_getElem? (i := 712) (by decide +kernel), List.mem_of_getElem? (i := 918) (by decide +kernel), List.mem_of_getElem? (i := 919) (by decide +kernel)⟩
theorem lw_p47 : lw_okq (⟨"MarketAwningsModel", "isStall", "(I)Z"⟩, 11) := ⟨⟨by decide +kernel, by decide +kernel⟩, List.mem_of_getElem? (i := 712) (by decide +kernel), List.mem_of_getElem? (i := 927) (by decide +kernel), List.mem_of_getElem? (i := 928) (by decide +kernel)⟩
def lw_privs_3 : List (MethodName × Nat) := [(⟨"MarketAwningsModel", "stallTold", "(II)I"⟩, 11), (⟨"MarketAwningsModel", "got", "(I)I"⟩, 11), (⟨"MarketAwningsModel", "lying", "(II)I"⟩, 11), (⟨"MarketAwningsModel", "sumOf", "(I)I"⟩, 11), (⟨"MarketAwningsModel", "pour", "(I)I"⟩, 11), (⟨"MarketAwningsModel", "fall", "(IIII)V"⟩, 11), (⟨"MarketAwningsModel", "highest", "(III)I"⟩, 11), (⟨"MarketAwningsModel", "below", "(I)I"⟩, 11), (⟨"MarketAwningsModel", "isHigher", "(II)Z"⟩, 11), (⟨"MarketAwningsModel", "drip", "(I)I"⟩, 11), (⟨"MarketAwningsModel", "awningTold", "(II)I"⟩, 11), (⟨"MarketAwningsModel", "own", "(I)I"⟩, 11), (⟨"MarketAwningsModel", "cellTold", "(III)I"⟩, 11), (⟨"MarketAwningsModel", "cordTold", "(II)I"⟩, 11), (⟨"MarketAwningsModel", "deepest", "(I)I"⟩, 11), (⟨"MarketAwningsModel", "isStall", "(I)Z"⟩, 11)]
theorem lw_r3 : ∀ q ∈ lw_privs_3, lw_okq q := List.forall_mem_cons.mpr ⟨lw_p32, List.forall_mem_cons.mpr ⟨lw_p33, List.forall_mem_cons.mpr ⟨lw_p34, List.forall_mem_cons.mpr ⟨lw_p35, List.forall_mem_cons.mpr ⟨lw_p36, List.forall_mem_cons.mpr ⟨lw_p37, List.forall_mem_cons.mpr ⟨lw_p38, List.forall_mem_cons.mpr ⟨lw_p39, List.forall_mem_cons.mpr ⟨lw_p40, List.forall_mem_cons.mpr ⟨lw_p41, List.forall_mem_cons.mpr ⟨lw_p42, List.forall_mem_cons.mpr ⟨lw_p43, List.forall_mem_cons.mpr ⟨lw_p44, List.forall_mem_cons.mpr ⟨lw_p45, List.forall_mem_cons.mpr ⟨lw_p46, List.forall_mem_cons.mpr ⟨lw_p47, fun _ h => absurd h List.not_mem_nil⟩⟩⟩⟩⟩⟩⟩⟩⟩⟩⟩⟩⟩⟩⟩⟩
def lw_privs : List (MethodName × Nat) := lw_privs_1 ++ (lw_privs_2 ++ (lw_privs_3))
def lw_tbl : List Cond := k2_sels lw_privs ++ tables_1
theorem lw_privs_ok : ∀ q ∈ lw_privs, lw_okq q := by
  show ∀ q ∈ lw_privs_1 ++ (lw_privs_2 ++ (lw_privs_3)), lw_okq q
  exact List.forall_mem_append.mpr ⟨lw_r1, List.forall_mem_append.mpr ⟨lw_r2, lw_r3⟩⟩
/-- the streams that the claim lets the run draw from -/
abbrev lw_cs : List Choice := [Jvm.Choice.named "NaN.bits"]
theorem lw_bits : nanBits ∈ lw_cs := by first | decide | exact List.mem_cons_self | simp [lw_cs, nanBits]
/-! ===== BEGIN words of one list among another's, by their places ===== -/
theorem goodIn_r {big : List Cond} (ws : List Cond) (ps : List Nat) (hp : ws = ps.filterMap (fun i => big[i]?)) (h : ws.all goodWord = true) : GoodIn big ws := by
  intro w hw
  have h1 := List.all_eq_true.mp h w hw
  rw [hp] at hw
  obtain ⟨i, -, hi⟩ := List.mem_filterMap.mp hw
  have hm : w ∈ big := by first | exact List.mem_of_getElem? hi | exact List.getElem?_mem hi
  exact ⟨hm, good_of_word h1⟩
theorem goodIn_app {big a b : List Cond} (ha : GoodIn big a) (hb : GoodIn big b) : GoodIn big (a ++ b) := fun w h => (List.mem_append.mp h).elim (ha w) (hb w)
theorem goodIn_ca {big a b : List Cond} {c : Cond} (ha : GoodIn big (c :: a)) (hb : GoodIn big b) : GoodIn big (c :: (a ++ b)) := fun w h => (List.mem_cons.mp h).elim (fun e => ha w (List.mem_cons.mpr (Or.inl e))) (fun h => (List.mem_append.mp h).elim (fun h => ha w (List.mem_cons.mpr (Or.inr h))) (hb w))
theorem goodIn_sub {big ws : List Cond} (hm : ∀ w ∈ ws, w ∈ big) (h : ws.all goodWord = true) : GoodIn big ws := fun w hw => ⟨hm w hw, good_of_word (List.all_eq_true.mp h w hw)⟩
/-! ===== END ===== -/

/-! ===== BEGIN exceptions that leave a method, and their catching by the caller (launches without stack traces) ===== -/
section VXA
/-! The laws vx_back, vx_callV, vx_callS, vx_callSW, vx_throw0, vx_throwS follow proofs of the library, with one case more: JvmDerived/Free/Laws.lean (Back.of_free), Shelf42/LK1.lean (callV, callS), Shelf/KitTraced.lean (throwNew0V, throwNewS). -/
/-- where a method has thrown q: the class by its name, the cell, what was written, the world -/
def vx_T (XC : String → State → State → Prop) (st : State) (q : Addr) (t : State) (mc ms : Nat) (free : Addr → Prop) : Prop :=
  ∃ (E : String) (ce : Cell) (L : List Loc), XC E st t ∧ t.heap[q]? = some ce ∧ ce.vm = .none ∧ st.vm.findClass E = some ce.cls ∧ st.WarmedH t.vm ∧ st.sameButNew ({ t with vm := st.vm } : State) L mc ms ∧ ∀ z ∈ L, free z.base
def vx_Q (Qc : Array Value → State → Outcome → State → Prop) (XC : String → State → State → Prop) (mc ms : Nat) (free : Addr → Prop) : Array Value → State → Outcome → State → Prop := fun a st o t =>
  (Qc a st o t ∧ ∃ L, FrameEnd st o t L mc ms ∧ ∀ q ∈ L, free q.base) ∨ ∃ q, o = .threw q ∧ vx_T XC st q t mc ms free
/-- a callee that returns or throws -/
def vx_Met (l : Launch) (y : MethodName) (ws : List Cond) (rm : Room) (Pc : Array Value → State → Prop) (Qc : Array Value → State → Outcome → State → Prop) (XC : String → State → State → Prop) (mc ms : Nat) (free : Addr → Prop) : Prop :=
  MetFree l y (headSpec ws rm) Pc (fun _ _ _ _ _ => True) (vx_Q Qc XC mc ms free)
def vx_Post (XC : String → State → State → Prop) (mc ms : Nat) (free : Addr → Prop) : Pt → Array Value → Addr → Pt → Prop := fun A a q B =>
  ∃ (g : JFrame) (mk : MethodId) (t : State) (L : List Loc) (E : String) (ce : Cell), B.U.heap = t.heap ∧ B.U.vm = t.vm ∧ XC E (A.U.calling g mk a) t ∧ t.heap[q]? = some ce ∧ ce.vm = .none ∧ A.U.vm.findClass E = some ce.cls ∧ B.locs = A.locs ++ L ∧ (∀ z ∈ L, free z.base) ∧ B.cells = A.cells + mc ∧ B.slots = A.slots + ms
def vx_Back (l : Launch) (R : Room) (p : Program) (e : Env) (below : List Frame) (s : State) (sargs : Array Value) (y : MethodName) (len W9 : Nat)
    (Pre : Pt → Array Value → Prop) (Post : Pt → Array Value → Option Value → Pt → Prop) (PostX : Pt → Array Value → Addr → Pt → Prop) : Prop :=
  ∀ (m : MethodId) (meth : Method) (c : Code) (A : Pt) (g : JFrame) (ig : Instr) (mk : MethodId) (a : Array Value),
    Stand p l e R s m sargs below meth c A.U A.locs A.cells A.slots → g.method = m → g.locals.size = c.maxLocals → decode c.code g.pc = .ok (ig, len) →
    2 * g.monitorRoom + (g.stack.map fun v => v.category).sum ≤ W9 → A.U.methodNamed? y = some mk → Pre A a →
    (∃ (v : Option Value) (B : Pt), Stand p l e R s m sargs below meth c B.U B.locs B.cells B.slots ∧ Post A a v B ∧
      Steps p.tables e below (doInvoke e (A.U.setTop g) [] mk a).1 (B.U.setTop { g with pc := g.pc + len, stack := v.toList ++ g.stack })) ∨
    (∃ (q : Addr) (B : Pt), Stand p l e R s m sargs below meth c B.U B.locs B.cells B.slots ∧ PostX A a q B ∧
      Steps p.tables e below (doInvoke e (A.U.setTop g) [] mk a).1 ((B.U.setTop g).pushFrame (.throwing q)))
section Payer
variable {l : Launch} {R : Room} {p : Program} {e : Env} {below : List Frame} {s : State} {sargs : Array Value} {y : MethodName} {len W9 : Nat}
theorem vx_back {ws : List Cond} {rm : Room} {Pc : Array Value → State → Prop} {Qc : Array Value → State → Outcome → State → Prop} {XC : String → State → State → Prop} {mc ms : Nat} {free : Addr → Prop} {bytes : ByteArray} {maxL : Nat} {ret : Option FieldType}
    (hM : vx_Met l y ws rm Pc Qc XC mc ms free) (hblind : FrameBlind Pc) (hrc : rm.cells = mc) (hrs : rm.slots = ms)
    (hframes : rm.frames + 1 ≤ R.frames) (hlocals : W9 + (maxL + 11) + rm.locals ≤ R.locals)
    (hws : ∀ w ∈ ws, ∀ a' U, s.WarmedH U.vm → w.before a' U = true) (hcode : Cond.code y bytes maxL ret ∈ ws) (hinit : ∀ a' U, s.WarmedH U.vm → (Cond.initialized y.cls).before a' U = true) :
    vx_Back l R p e below s sargs y len W9 (PreOf R mc ms Pc) (PostOf Qc mc ms free) (vx_Post XC mc ms free) := by
  intro m meth c A g ig mk a X hg hsize hdg hW hn hp
  have h1 : (headSpec ws rm).pre.before a A.U = true := atoms_intro fun w hw => hws w hw _ _ X.warmed
  have h2 : (Cond.code y bytes maxL ret).before a A.U = true := hws _ hcode _ _ X.warmed
  have h3 : (Cond.initialized y.cls).before a A.U = true := hinit _ _ X.warmed
  have h4 : A.cells + (headSpec ws rm).room.cells ≤ R.cells := by rw [show (headSpec ws rm).room.cells = mc from hrc]; exact hp.1
  have h5 : A.slots + (headSpec ws rm).room.slots ≤ R.slots := by rw [show (headSpec ws rm).room.slots = ms from hrs]; exact hp.2.1
  have hPc : Pc a (A.U.calling g mk a) := hblind _ _ _ _ hp.2.2
  obtain ⟨U, Ls, c0, s0⟩ := A
  dsimp only [Pt.U, Pt.locs, Pt.cells, Pt.slots] at h1 h2 h3 h4 h5 X hn hPc ⊢
  obtain ⟨methY, cY, hmY, hcY, -, hlY, -, -, -, -⟩ := Cond.code_spec hn h2
  obtain ⟨kY, hkY, -⟩ := className_of_methodNamed hn
  have hinitY : kY.init = .initialized := Cond.initialized_spec (findClass_of_methodNamed hn) hkY h3
  have h : At U g.method c below := by rw [hg]; exact X.here
  have hlocals9 : W9 + (maxL + 11) + (headSpec ws rm).room.locals ≤ R.locals := hlocals
  have happ : (headSpec ws rm).appliesLoose y e.platform (U.calling g mk a) = true :=
    Spec.appliesLoose_calling (g := g) h hdg hn hkY hinitY
      (X.room_calling (g := g) (R' := (headSpec ws rm).room) hsize hmY hcY hframes (by rw [hlY]; omega) h4 h5) h1
  obtain ⟨mid, hmid⟩ := h.above
  have hfr : (U.setTop g).frames = (.java g :: mid) ++ below := by rw [State.frames_setTop' g h.top, hmid]; rfl
  obtain ⟨o, s₂, hsteps, -, hend, hq⟩ := Steps.callFree hM p X.admits X.cas X.clock (acts := []) hfr happ hPc trivial
  have hq' : vx_Q Qc XC mc ms free a (U.calling g mk a) o s₂ := hq
  rw [State.frames_setTop' g h.top] at hend
  obtain ⟨g₀, hg0⟩ := Option.isSome_iff_exists.mp h.top
  obtain ⟨r, hr⟩ := State.topJava?_eq_some.mp hg0
  have hr' : (({ U with heap := s₂.heap, slotsUsed := s₂.slotsUsed } : State).setVm s₂.vm).frames = .java g₀ :: r := hr
  rcases hq' with ⟨hqc, L, hfe, hL⟩ | ⟨q, rfl, E, ce, L, hx, hce, hcv, hcl, hW₂, hsm, hL⟩
  · obtain ⟨⟨v, rfl⟩, hW₂, e2, q2, q3, q4, q5, q6⟩ := id hfe
    have e3 : s₂ = ({ (U.calling g mk a).setFrames s₂.frames with heap := s₂.heap, slotsUsed := s₂.slotsUsed } : State).setVm s₂.vm := by
      have : s₂ = ({ s₂ with vm := (U.calling g mk a).vm } : State).setVm s₂.vm := rfl
      rw [e2] at this
      exact this
    obtain ⟨c₂, i₂, len₂, hc₂, hd₂, hf₂⟩ := hend
    have hW' : U.WarmedH s₂.vm := hW₂
    have hcc : c₂ = c := by
      have h1 : s₂.code? g.method = U.code? g.method := by
        rw [State.code?_eq, State.code?_eq, hW'.alike.method?]
      exact Option.some.inj (hc₂.symm.trans (h1.trans h.code))
    subst hcc
    have hlen : len₂ = len := by rw [hdg] at hd₂; cases hd₂; rfl
    subst hlen
    have hs₂ : s₂ = (({ U with heap := s₂.heap, slotsUsed := s₂.slotsUsed } : State).setVm s₂.vm).setTop { g with pc := g.pc + len₂, stack := v.toList ++ g.stack } := by
      refine e3.trans ?_
      rw [hf₂, State.calling_eq h.top, State.setFrames_setFrames, State.setTop_of_frames _ hr', hr]
      rfl
    have hsame : U.sameButNew ({ U with heap := s₂.heap, slotsUsed := s₂.slotsUsed } : State) L mc ms := by
      refine ⟨?_, q2, q3, q4, q5, q6⟩
      obtain ⟨t, ht, -⟩ := State.frames_cons hr
      show ({ U with heap := s₂.heap, slotsUsed := s₂.slotsUsed } : State) = { U.setFrames U.frames with heap := s₂.heap, slotsUsed := s₂.slotsUsed }
      rw [State.setFrames_self ht]
    subst hg
    refine Or.inl ⟨v, ⟨(({ U with heap := s₂.heap, slotsUsed := s₂.slotsUsed } : State).setVm s₂.vm), Ls ++ L, c0 + mc, s0 + ms⟩,
      ⟨X.admits, X.cas, X.clock, X.frames, X.room, X.hears, X.method, X.code, (X.here.setHeapUsed s₂.heap s₂.slotsUsed).setVm hW'.alike, X.tail, State.WarmedH.trans X.warmed hW', X.limits, X.bytes, X.same.trans (hsame.setVm s.vm)⟩,
      ⟨g, mk, s₂, L, rfl, rfl, hqc, rfl, hL, rfl, rfl⟩, ?_⟩
    show Steps p.tables e below _ ((({ U with heap := s₂.heap, slotsUsed := s₂.slotsUsed } : State).setVm s₂.vm).setTop { g with pc := g.pc + len₂, stack := v.toList ++ g.stack })
    rw [← hs₂]
    exact hsteps
  · obtain ⟨e2, q2, q3, q4, q5, q6⟩ := id hsm
    have e3 : s₂ = ({ (U.calling g mk a).setFrames s₂.frames with heap := s₂.heap, slotsUsed := s₂.slotsUsed } : State).setVm s₂.vm := by
      have : s₂ = ({ s₂ with vm := (U.calling g mk a).vm } : State).setVm s₂.vm := rfl
      rw [e2] at this
      exact this
    have hf₂ : s₂.frames = .throwing q :: .java g :: U.frames.tail := hend
    have hW' : U.WarmedH s₂.vm := hW₂
    have hs₂ : s₂ = ((({ U with heap := s₂.heap, slotsUsed := s₂.slotsUsed } : State).setVm s₂.vm).setTop g).pushFrame (.throwing q) := by
      refine e3.trans ?_
      rw [hf₂, State.calling_eq h.top, State.setFrames_setFrames, State.pushFrame, State.frames_setTop _ hr', State.setTop_of_frames _ hr', State.setFrames_setFrames, hr]
      rfl
    have hsame : U.sameButNew ({ U with heap := s₂.heap, slotsUsed := s₂.slotsUsed } : State) L mc ms := by
      refine ⟨?_, q2, q3, q4, q5, q6⟩
      obtain ⟨t, ht, -⟩ := State.frames_cons hr
      show ({ U with heap := s₂.heap, slotsUsed := s₂.slotsUsed } : State) = { U.setFrames U.frames with heap := s₂.heap, slotsUsed := s₂.slotsUsed }
      rw [State.setFrames_self ht]
    subst hg
    refine Or.inr ⟨q, ⟨(({ U with heap := s₂.heap, slotsUsed := s₂.slotsUsed } : State).setVm s₂.vm), Ls ++ L, c0 + mc, s0 + ms⟩,
      ⟨X.admits, X.cas, X.clock, X.frames, X.room, X.hears, X.method, X.code, (X.here.setHeapUsed s₂.heap s₂.slotsUsed).setVm hW'.alike, X.tail, State.WarmedH.trans X.warmed hW', X.limits, X.bytes, X.same.trans (hsame.setVm s.vm)⟩,
      ⟨g, mk, s₂, L, E, ce, rfl, rfl, hx, hce, hcv, hcl, rfl, hL, rfl, rfl⟩, ?_⟩
    show Steps p.tables e below _ (((({ U with heap := s₂.heap, slotsUsed := s₂.slotsUsed } : State).setVm s₂.vm).setTop g).pushFrame (.throwing q))
    rw [← hs₂]
    exact hsteps
end Payer
section Calls
variable {p : Program} {l : Launch} {e : Env} {R : Room} {s : State} {m : MethodId} {args : Array Value} {below : List Frame} {meth : Method} {c : Code} {T : State} {locs : List Loc} {cells slots : Nat}
theorem vx_callV (X : Stand p l e R s m args below meth c T locs cells slots) (hexec : p.tables.exec = Jvm.exec) {own C : String} {index : Nat} {y : MethodName} {bytes : ByteArray} {maxL : Nat} {ret : Option FieldType}
    (hown : s.vm.findClass own = some m.cls) (hlink : (Cond.methodLink own index y).before args s = true) (hinst : (Cond.instanceMethod y).before args s = true) (hsel : (Cond.selects C y y).before args s = true)
    (hcode : (Cond.code y bytes maxL ret).before args s = true) (hy : y.cls ≠ "java/lang/invoke/MethodHandle" ∧ y.cls ≠ "java/lang/invoke/VarHandle")
    {W9 : Nat} {Pre : Pt → Array Value → Prop} {Post : Pt → Array Value → Option Value → Pt → Prop} {PostX : Pt → Array Value → Addr → Pt → Prop} (hK : vx_Back l R p e below s args y 3 W9 Pre Post PostX)
    {b : Addr} {cellB : Cell} (hcell : T.heap[b]? = some cellB) (hobj : cellB.vm.isStatics = false) (hcls : s.vm.findClass C = some cellB.cls)
    {g : JFrame} (hg : g.method = m) (hsize : g.locals.size = c.maxLocals) {argsL rest : List Value} (hlen : ∀ sig, parseMethodDescriptor y.desc = some sig → argsL.length = sig.parameters.length)
    (hstack : g.stack = argsL.reverse ++ .ref b :: rest) (hW : 2 * g.monitorRoom + (rest.map fun v => v.category).sum ≤ W9) (hdg : decode c.code g.pc = .ok (.invokevirtual index, 3))
    (hpre : ∀ vm₁, s.WarmedH vm₁ → Pre ⟨T.setVm vm₁, locs, cells, slots⟩ (Value.ref b :: argsL).toArray) :
    (∃ (v : Option Value) (vm₁ : Vm) (B : Pt), s.WarmedH vm₁ ∧ Stand p l e R s m args below meth c B.U B.locs B.cells B.slots ∧ Post ⟨T.setVm vm₁, locs, cells, slots⟩ (Value.ref b :: argsL).toArray v B ∧
      ∀ target, Steps p.tables e below (B.U.setTop { g with pc := g.pc + 3, stack := v.toList ++ rest }) target → Steps p.tables e below (T.setTop g) target) ∨
    (∃ (q : Addr) (vm₁ : Vm) (B : Pt), s.WarmedH vm₁ ∧ Stand p l e R s m args below meth c B.U B.locs B.cells B.slots ∧ PostX ⟨T.setVm vm₁, locs, cells, slots⟩ (Value.ref b :: argsL).toArray q B ∧
      Steps p.tables e below (T.setTop g) ((B.U.setTop { g with stack := rest }).pushFrame (.throwing q))) := by
  obtain ⟨mk, methM, hnamed, hmethM, hstM, habM⟩ := Cond.instanceMethod_spec hinst
  obtain ⟨methM', cM, hmethM', -, -, -, -, -, -, hsigM⟩ := Cond.code_spec hnamed hcode
  cases hmethM.symm.trans hmethM'
  obtain ⟨c2, r2, m2, q1, q2, q3, q4, kP, hkP, hkPi⟩ := Cond.selects_spec hsel
  cases hcls.symm.trans q1
  cases (State.methodFound?_of_named hnamed hy).symm.trans q2
  cases hnamed.symm.trans q3
  have hselP : selectMethod e.platform s.vm cellB.cls mk = .method mk := by rw [Launch.admits_selectMethod X.admits]; exact q4
  obtain ⟨vm₁, X₁, hstep₁⟩ := X.invokevirtual hexec hown hlink hnamed hmethM hstM hkP hkPi hy (a := b) (cell := cellB) hcell
    (fun z h => by rw [h] at hobj; cases hobj) hselP hmethM habM hkP hkPi (g := g) hg (argsL := argsL) (rest := rest) (hlen _ hsigM) hstack hdg
  rcases hK m meth c ⟨T.setVm vm₁, locs, cells, slots⟩ { g with stack := rest } (.invokevirtual index) mk (Value.ref b :: argsL).toArray X₁ hg hsize hdg hW (X₁.named hnamed) (hpre vm₁ X₁.warmed) with ⟨v, B, X', hpost, hsteps⟩ | ⟨q, B, X', hpost, hsteps⟩
  · exact Or.inl ⟨v, vm₁, B, X₁.warmed, X', hpost, fun target h => hstep₁ _ fun acts => by rw [doInvoke_state]; exact hsteps.trans h⟩
  · exact Or.inr ⟨q, vm₁, B, X₁.warmed, X', hpost, hstep₁ _ fun acts => by rw [doInvoke_state]; exact hsteps⟩
theorem vx_callS (X : Stand p l e R s m args below meth c T locs cells slots) (hexec : p.tables.exec = Jvm.exec) {own : String} {index : Nat} {y : MethodName} {bytes : ByteArray} {maxL : Nat} {ret : Option FieldType}
    (hown : s.vm.findClass own = some m.cls) (hlink : (Cond.methodLink own index y).before args s = true) (hstat : (Cond.static y).before args s = true) (hinit : (Cond.initialized y.cls).before args s = true)
    (hcode : (Cond.code y bytes maxL ret).before args s = true) (hy : y.cls ≠ "java/lang/invoke/MethodHandle" ∧ y.cls ≠ "java/lang/invoke/VarHandle")
    {W9 : Nat} {Pre : Pt → Array Value → Prop} {Post : Pt → Array Value → Option Value → Pt → Prop} {PostX : Pt → Array Value → Addr → Pt → Prop} (hK : vx_Back l R p e below s args y 3 W9 Pre Post PostX)
    {g : JFrame} (hg : g.method = m) (hsize : g.locals.size = c.maxLocals) {argsL rest : List Value} (hlen : ∀ sig, parseMethodDescriptor y.desc = some sig → argsL.length = sig.parameters.length)
    (hstack : g.stack = argsL.reverse ++ rest) (hW : 2 * g.monitorRoom + (rest.map fun v => v.category).sum ≤ W9) (hdg : decode c.code g.pc = .ok (.invokestatic index, 3))
    (hpre : ∀ vm₁, s.WarmedH vm₁ → Pre ⟨T.setVm vm₁, locs, cells, slots⟩ argsL.toArray) :
    (∃ (v : Option Value) (vm₁ : Vm) (B : Pt), s.WarmedH vm₁ ∧ Stand p l e R s m args below meth c B.U B.locs B.cells B.slots ∧ Post ⟨T.setVm vm₁, locs, cells, slots⟩ argsL.toArray v B ∧
      ∀ target, Steps p.tables e below (B.U.setTop { g with pc := g.pc + 3, stack := v.toList ++ rest }) target → Steps p.tables e below (T.setTop g) target) ∨
    (∃ (q : Addr) (vm₁ : Vm) (B : Pt), s.WarmedH vm₁ ∧ Stand p l e R s m args below meth c B.U B.locs B.cells B.slots ∧ PostX ⟨T.setVm vm₁, locs, cells, slots⟩ argsL.toArray q B ∧
      Steps p.tables e below (T.setTop g) ((B.U.setTop { g with stack := rest }).pushFrame (.throwing q))) := by
  obtain ⟨mk, hnamed⟩ := Cond.code_named hcode
  obtain ⟨methM, cM, hmethM, -, -, -, -, -, -, hsigM⟩ := Cond.code_spec hnamed hcode
  have hstatic : methM.isStatic = true := Cond.static_spec hnamed hmethM hstat
  obtain ⟨kP, hkP, -⟩ := className_of_methodNamed hnamed
  have hinitP : kP.init = .initialized := Cond.initialized_spec (findClass_of_methodNamed hnamed) hkP hinit
  obtain ⟨vm₁, X₁, hstep₁⟩ := X.invokestatic hexec hown hlink hnamed hmethM hstatic hkP hinitP hy (g := g) hg (argsL := argsL) (rest := rest) (hlen _ hsigM) hstack hdg
  rcases hK m meth c ⟨T.setVm vm₁, locs, cells, slots⟩ { g with stack := rest } (.invokestatic index) mk argsL.toArray X₁ hg hsize hdg hW (X₁.named hnamed) (hpre vm₁ X₁.warmed) with ⟨v, B, X', hpost, hsteps⟩ | ⟨q, B, X', hpost, hsteps⟩
  · exact Or.inl ⟨v, vm₁, B, X₁.warmed, X', hpost, fun target h => hstep₁ _ fun acts => by rw [doInvoke_state]; exact hsteps.trans h⟩
  · exact Or.inr ⟨q, vm₁, B, X₁.warmed, X', hpost, hstep₁ _ fun acts => by rw [doInvoke_state]; exact hsteps⟩
end Calls
theorem vx_cls {s : State} {T : State} {vm₁ : Vm} {E : String} {k : ClassId} (hW : s.WarmedH vm₁) (h : (T.setVm vm₁).vm.findClass E = some k) : s.vm.findClass E = some k := by
  have h1 : vm₁.findClass E = some k := h
  rw [hW.alike.findClass] at h1
  exact h1
/-- the method's frame g, with q thrown over it -/
def vx_W (p : Program) (l : Launch) (e : Env) (R : Room) (s : State) (m : MethodId) (args : Array Value) (below : List Frame) (meth : Method) (c : Code) (H : Heap) (locs : List Loc) (cells slots : Nat) (Q : State → Prop) (g : JFrame) (q : Addr) : Prop :=
  ∀ T : State, T.heap = H → Stand p l e R s m args below meth c T locs cells slots → ∃ t, Steps p.tables e below ((T.setTop g).pushFrame (.throwing q)) t ∧ Q t
def vx_Run (p : Program) (l : Launch) (e : Env) (R : Room) (s : State) (m : MethodId) (args : Array Value) (below : List Frame) (meth : Method) (c : Code) (H : Heap) (locs : List Loc) (cells slots mc ms : Nat) (g : JFrame) (rest : List Value) (Qa : State → Outcome → State → Prop) (XC : String → State → State → Prop) (free : Addr → Prop) : Prop :=
  ∀ T : State, T.heap = H → Stand p l e R s m args below meth c T locs cells slots →
    (∃ (v : Option Value) (st₀ t T' : State) (L : List Loc), st₀.heap = H ∧ Stand p l e R s m args below meth c T' (locs ++ L) (cells + mc) (slots + ms) ∧ (∀ q ∈ L, free q.base) ∧ T'.heap = t.heap ∧ T'.vm = t.vm ∧ Qa st₀ (.returned v) t ∧
      Goes p e below T g T' { g with pc := g.pc + 3, stack := v.toList ++ rest }) ∨
    (∃ (q : Addr) (st₀ t T' : State) (L : List Loc) (E : String) (ce : Cell), st₀.heap = H ∧ Stand p l e R s m args below meth c T' (locs ++ L) (cells + mc) (slots + ms) ∧ (∀ z ∈ L, free z.base) ∧ T'.heap = t.heap ∧ T'.vm = t.vm ∧ XC E st₀ t ∧ t.heap[q]? = some ce ∧ ce.vm = .none ∧ s.vm.findClass E = some ce.cls ∧
      Steps p.tables e below (T.setTop g) ((T'.setTop { g with stack := rest }).pushFrame (.throwing q)))
def vx_X {S : Type} (px : S → Prop) (B : String → S → State → Prop) (A : Nat → Prop) : String → State → State → Prop := fun E st t => ∃ u : S, px u ∧ B E u t ∧ va_F A st t
section Runs
variable {p : Program} {l : Launch} {e : Env} {R : Room} {s : State} {m : MethodId} {args : Array Value} {below : List Frame} {meth : Method} {c : Code} {H : Heap} {locs : List Loc} {cells slots : Nat}
variable {y : MethodName} {bytes cc : ByteArray} {maxL nL mc ms n index : Nat} {ret : Option FieldType} {ws : List Cond} {rm : Room} {Pc : Array Value → State → Prop} {Qc : Array Value → State → Outcome → State → Prop} {XC : String → State → State → Prop} {free : Addr → Prop} {Ts : List Cond} {own C : String} {b : Addr} {As rest : List Value} {g : JFrame}
theorem vx_callBack (cb : CallB R s args own index y bytes maxL ret ws rm mc ms n) (hM : vx_Met l y ws rm Pc Qc XC mc ms free) (hbl : FrameBlind Pc) : vx_Back l R p e below s args y 3 8 (PreOf R mc ms Pc) (PostOf Qc mc ms free) (vx_Post XC mc ms free) := by
  obtain ⟨hrc, hrs, hfr, hlo, hws, hcw, -, hini, -⟩ := cb
  exact vx_back (bytes := bytes) (maxL := maxL) (ret := ret) hM hbl hrc hrs hfr hlo hws hcw (fun a' U hW => word_at hW (Or.inl (by first | rfl | simp [Cond.onTables, Cond.keeps, Cond.steady])) hini)
theorem vx_runV (S : CallFix p m c cc nL s args Ts own) (hM : vx_Met l y ws rm Pc Qc XC mc ms free) (cw : CallW R s args own C index y bytes maxL ret ws rm mc ms n) (hp : PreV s H C b Pc As)
    (hg : g.method = m) (hn : As.length = n) (hsize : g.locals.size = nL) (hstack : g.stack = As.reverse ++ .ref b :: rest) (hW : 2 * g.monitorRoom + (rest.map fun v => v.category).sum ≤ 8) (hdg : decode cc g.pc = .ok (.invokevirtual index, 3)) (hf : cells + mc ≤ R.cells ∧ slots + ms ≤ R.slots) :
    vx_Run p l e R s m args below meth c H locs cells slots mc ms g rest (Qc (Value.ref b :: As).toArray) XC free := by
  have hK : vx_Back l R p e below s args y 3 8 (PreOf R mc ms Pc) (PostOf Qc mc ms free) (vx_Post XC mc ms free) := vx_callBack cw.1 hM hp.1
  obtain ⟨⟨-, -, -, -, -, -, hcode, -, hy, hlen, hl⟩, hin, hse⟩ := cw
  obtain ⟨hx, hb, hml, ho, -⟩ := S
  obtain ⟨-, ⟨cellB, hcB, hoB, hclB⟩, hPc⟩ := hp
  intro T hT X
  rcases vx_callV X hx (C := C) (bytes := bytes) (maxL := maxL) (ret := ret) ho hl hin hse hcode hy hK (by rw [hT]; exact hcB) hoB hclB hg (hsize.trans hml.symm) (argsL := As) (rest := rest) (fun sig h => hn.trans (hlen sig h)) hstack hW (by rw [hb]; exact hdg)
    (fun vm₁ hW₁ => ⟨hf.1, hf.2, hPc (T.setVm vm₁) hT hW₁⟩) with ⟨v, vm₁, ⟨U', l2, c2, s2⟩, hW₁, X', ⟨g', mk, t, L, e1, e2, hq, h1, hL, h2, h3⟩, st⟩ | ⟨q, vm₁, ⟨U', l2, c2, s2⟩, hW₁, X', ⟨g', mk, t, L, E, ce, e1, e2, hq, hce, hcv, hcl, h1, hL, h2, h3⟩, st⟩
  · dsimp only [Pt.U, Pt.locs, Pt.cells, Pt.slots] at X' e1 e2 h1 h2 h3 st
    subst h1; subst h2; subst h3
    exact Or.inl ⟨v, (T.setVm vm₁).calling g' mk (Value.ref b :: As).toArray, t, U', L, hT, X', hL, e1, e2, hq, st⟩
  · dsimp only [Pt.U, Pt.locs, Pt.cells, Pt.slots] at X' e1 e2 h1 h2 h3 st hcl
    subst h1; subst h2; subst h3
    exact Or.inr ⟨q, (T.setVm vm₁).calling g' mk (Value.ref b :: As).toArray, t, U', L, E, ce, hT, X', hL, e1, e2, hq, hce, hcv, vx_cls hW₁ hcl, st⟩
theorem vx_runS (S : CallFix p m c cc nL s args Ts own) (hM : vx_Met l y ws rm Pc Qc XC mc ms free) (cw : CallB R s args own index y bytes maxL ret ws rm mc ms n ∧ (Cond.static y).before args s = true) (hp : PreS s H Pc As)
    (hg : g.method = m) (hn : As.length = n) (hsize : g.locals.size = nL) (hstack : g.stack = As.reverse ++ rest) (hW : 2 * g.monitorRoom + (rest.map fun v => v.category).sum ≤ 8) (hdg : decode cc g.pc = .ok (.invokestatic index, 3)) (hf : cells + mc ≤ R.cells ∧ slots + ms ≤ R.slots) :
    vx_Run p l e R s m args below meth c H locs cells slots mc ms g rest (Qc As.toArray) XC free := by
  have hK : vx_Back l R p e below s args y 3 8 (PreOf R mc ms Pc) (PostOf Qc mc ms free) (vx_Post XC mc ms free) := vx_callBack cw.1 hM hp.1
  obtain ⟨⟨-, -, -, -, -, -, hcode, hini, hy, hlen, hl⟩, hstt⟩ := cw
  obtain ⟨hx, hb, hml, ho, -⟩ := S
  intro T hT X
  rcases vx_callS X hx (bytes := bytes) (maxL := maxL) (ret := ret) ho hl hstt hini hcode hy hK hg (hsize.trans hml.symm) (argsL := As) (rest := rest) (fun sig h => hn.trans (hlen sig h)) hstack hW (by rw [hb]; exact hdg)
    (fun vm₁ hW₁ => ⟨hf.1, hf.2, hp.2 (T.setVm vm₁) hT hW₁⟩) with ⟨v, vm₁, ⟨U', l2, c2, s2⟩, hW₁, X', ⟨g', mk, t, L, e1, e2, hq, h1, hL, h2, h3⟩, st⟩ | ⟨q, vm₁, ⟨U', l2, c2, s2⟩, hW₁, X', ⟨g', mk, t, L, E, ce, e1, e2, hq, hce, hcv, hcl, h1, hL, h2, h3⟩, st⟩
  · dsimp only [Pt.U, Pt.locs, Pt.cells, Pt.slots] at X' e1 e2 h1 h2 h3 st
    subst h1; subst h2; subst h3
    exact Or.inl ⟨v, (T.setVm vm₁).calling g' mk As.toArray, t, U', L, hT, X', hL, e1, e2, hq, st⟩
  · dsimp only [Pt.U, Pt.locs, Pt.cells, Pt.slots] at X' e1 e2 h1 h2 h3 st hcl
    subst h1; subst h2; subst h3
    exact Or.inr ⟨q, (T.setVm vm₁).calling g' mk As.toArray, t, U', L, E, ce, hT, X', hL, e1, e2, hq, hce, hcv, vx_cls hW₁ hcl, st⟩
end Runs
section Rows
variable {p : Program} {l : Launch} {e : Env} {R : Room} {s : State} {m : MethodId} {args : Array Value} {below : List Frame} {meth : Method} {c : Code} {H : Heap} {locs : List Loc} {cells slots : Nat} {Q : State → Prop}
variable {mc ms : Nat} {free : Addr → Prop} {A0 A1 : Nat → Prop} {H0 : Heap} {a : Array Value} {pc : Nat} {ls : Array Slot} {st0 rest : List Value}
theorem vx_keep {st₀ t T' : State} {L : List Loc} (h0 : st₀.heap = H) (e1 : T'.heap = t.heap) (hS : va_S A0 H0 H locs) (hA : ∀ q, q < H.size → A1 q → A0 q) (hf : ∀ q, free q → A0 q) (hL : ∀ q ∈ L, free q.base) (hF : va_F A1 st₀ t) :
    H.size ≤ T'.heap.size ∧ (∀ q : Nat, q < H.size → ¬ A1 q → T'.heap[q]? = H[q]?) ∧ va_S A0 H0 T'.heap (locs ++ L) := by
  obtain ⟨hz, hk⟩ := hF
  rw [h0] at hz hk
  exact ⟨by rw [e1]; exact hz, fun q h1 h2 => by rw [e1]; exact hk q h1 h2,
    ⟨Nat.le_trans hS.1 (by rw [e1]; exact hz), fun q h1 h2 => by rw [e1, hk q (Nat.lt_of_lt_of_le h1 hS.1) (fun z => h2 (hA q (Nat.lt_of_lt_of_le h1 hS.1) z))]; exact hS.2.1 q h1 h2, fun q hq => by
      rcases List.mem_append.mp hq with h | h
      · exact hS.2.2 q h
      · exact hf _ (hL q h)⟩⟩
theorem vx_calli {S SX : Type} {post : Int32 → S → Prop} {px : SX → Prop} {B : S → State → Prop} {BX : String → SX → State → Prop} {AX : Nat → Prop} (hr : vx_Run p l e R s m args below meth c H locs cells slots mc ms (F0 m pc ls st0) rest (va_Qi post B A1 a) (vx_X px BX AX) free) (hS : va_S A0 H0 H locs) (hA : ∀ q, q < H.size → A1 q → A0 q) (hf : ∀ q, free q → A0 q) (hAX : ∀ q, q < H.size → AX q → A0 q)
    (kx : ∀ (E : String) (ce : Cell) (q9 : Addr) (u : SX) (t : State) (H1 : Heap) (locs1 : List Loc), t.heap = H1 → s.vm.Alike t.vm → px u → BX E u t → H.size ≤ H1.size → (∀ q : Nat, q < H.size → ¬ AX q → H1[q]? = H[q]?) → va_S A0 H0 H1 locs1 → H1[q9]? = some ce → ce.vm = .none → s.vm.findClass E = some ce.cls → vx_W p l e R s m args below meth c H1 locs1 (cells + mc) (slots + ms) Q (F0 m pc ls rest) q9)
    (kk : ∀ (r : Int32) (u : S) (t : State) (H1 : Heap) (locs1 : List Loc), t.heap = H1 → s.vm.Alike t.vm → post r u → B u t → H.size ≤ H1.size → (∀ q : Nat, q < H.size → ¬ A1 q → H1[q]? = H[q]?) → va_S A0 H0 H1 locs1 → W p l e R s m args below meth c H1 locs1 (cells + mc) (slots + ms) Q (F0 m (pc + 3) ls (.int r :: rest))) : W p l e R s m args below meth c H locs cells slots Q (F0 m pc ls st0) := by
  intro T hT X
  rcases hr T hT X with ⟨v, st₀, t, T', L, h0, X', hL, e1, e2, ⟨⟨r, u, hv, hp, hb⟩, hF⟩, st⟩ | ⟨q, st₀, t, T', L, E, ce, h0, X', hL, e1, e2, ⟨u, hp, hb, hF⟩, hce, hcv, hcl, st⟩
  · cases hv
    obtain ⟨k1, k2, k3⟩ := vx_keep h0 e1 hS hA hf hL hF
    obtain ⟨t2, a1, b1⟩ := kk r u t T'.heap (locs ++ L) e1.symm (by rw [← e2]; exact X'.warmed.alike) hp hb k1 k2 k3 T' rfl X'
    exact ⟨t2, st t2 a1, b1⟩
  · obtain ⟨k1, k2, k3⟩ := vx_keep h0 e1 hS hAX hf hL hF
    obtain ⟨t2, a1, b1⟩ := kx E ce q u t T'.heap (locs ++ L) e1.symm (by rw [← e2]; exact X'.warmed.alike) hp hb k1 k2 k3 (by rw [e1]; exact hce) hcv hcl T' rfl X'
    exact ⟨t2, st.trans a1, b1⟩
theorem vx_calll {S SX : Type} {post : Int64 → S → Prop} {px : SX → Prop} {B : S → State → Prop} {BX : String → SX → State → Prop} {AX : Nat → Prop} (hr : vx_Run p l e R s m args below meth c H locs cells slots mc ms (F0 m pc ls st0) rest (va_Ql post B A1 a) (vx_X px BX AX) free) (hS : va_S A0 H0 H locs) (hA : ∀ q, q < H.size → A1 q → A0 q) (hf : ∀ q, free q → A0 q) (hAX : ∀ q, q < H.size → AX q → A0 q)
    (kx : ∀ (E : String) (ce : Cell) (q9 : Addr) (u : SX) (t : State) (H1 : Heap) (locs1 : List Loc), t.heap = H1 → s.vm.Alike t.vm → px u → BX E u t → H.size ≤ H1.size → (∀ q : Nat, q < H.size → ¬ AX q → H1[q]? = H[q]?) → va_S A0 H0 H1 locs1 → H1[q9]? = some ce → ce.vm = .none → s.vm.findClass E = some ce.cls → vx_W p l e R s m args below meth c H1 locs1 (cells + mc) (slots + ms) Q (F0 m pc ls rest) q9)
    (kk : ∀ (r : Int64) (u : S) (t : State) (H1 : Heap) (locs1 : List Loc), t.heap = H1 → s.vm.Alike t.vm → post r u → B u t → H.size ≤ H1.size → (∀ q : Nat, q < H.size → ¬ A1 q → H1[q]? = H[q]?) → va_S A0 H0 H1 locs1 → W p l e R s m args below meth c H1 locs1 (cells + mc) (slots + ms) Q (F0 m (pc + 3) ls (.long r :: rest))) : W p l e R s m args below meth c H locs cells slots Q (F0 m pc ls st0) := by
  intro T hT X
  rcases hr T hT X with ⟨v, st₀, t, T', L, h0, X', hL, e1, e2, ⟨⟨r, u, hv, hp, hb⟩, hF⟩, st⟩ | ⟨q, st₀, t, T', L, E, ce, h0, X', hL, e1, e2, ⟨u, hp, hb, hF⟩, hce, hcv, hcl, st⟩
  · cases hv
    obtain ⟨k1, k2, k3⟩ := vx_keep h0 e1 hS hA hf hL hF
    obtain ⟨t2, a1, b1⟩ := kk r u t T'.heap (locs ++ L) e1.symm (by rw [← e2]; exact X'.warmed.alike) hp hb k1 k2 k3 T' rfl X'
    exact ⟨t2, st t2 a1, b1⟩
  · obtain ⟨k1, k2, k3⟩ := vx_keep h0 e1 hS hAX hf hL hF
    obtain ⟨t2, a1, b1⟩ := kx E ce q u t T'.heap (locs ++ L) e1.symm (by rw [← e2]; exact X'.warmed.alike) hp hb k1 k2 k3 (by rw [e1]; exact hce) hcv hcl T' rfl X'
    exact ⟨t2, st.trans a1, b1⟩
theorem vx_callf {S SX : Type} {post : UInt32 → S → Prop} {px : SX → Prop} {B : S → State → Prop} {BX : String → SX → State → Prop} {AX : Nat → Prop} (hr : vx_Run p l e R s m args below meth c H locs cells slots mc ms (F0 m pc ls st0) rest (va_Qf post B A1 a) (vx_X px BX AX) free) (hS : va_S A0 H0 H locs) (hA : ∀ q, q < H.size → A1 q → A0 q) (hf : ∀ q, free q → A0 q) (hAX : ∀ q, q < H.size → AX q → A0 q)
    (kx : ∀ (E : String) (ce : Cell) (q9 : Addr) (u : SX) (t : State) (H1 : Heap) (locs1 : List Loc), t.heap = H1 → s.vm.Alike t.vm → px u → BX E u t → H.size ≤ H1.size → (∀ q : Nat, q < H.size → ¬ AX q → H1[q]? = H[q]?) → va_S A0 H0 H1 locs1 → H1[q9]? = some ce → ce.vm = .none → s.vm.findClass E = some ce.cls → vx_W p l e R s m args below meth c H1 locs1 (cells + mc) (slots + ms) Q (F0 m pc ls rest) q9)
    (kk : ∀ (r : UInt32) (u : S) (t : State) (H1 : Heap) (locs1 : List Loc), t.heap = H1 → s.vm.Alike t.vm → post r u → B u t → H.size ≤ H1.size → (∀ q : Nat, q < H.size → ¬ A1 q → H1[q]? = H[q]?) → va_S A0 H0 H1 locs1 → W p l e R s m args below meth c H1 locs1 (cells + mc) (slots + ms) Q (F0 m (pc + 3) ls (.float r :: rest))) : W p l e R s m args below meth c H locs cells slots Q (F0 m pc ls st0) := by
  intro T hT X
  rcases hr T hT X with ⟨v, st₀, t, T', L, h0, X', hL, e1, e2, ⟨⟨r, u, hv, hp, hb⟩, hF⟩, st⟩ | ⟨q, st₀, t, T', L, E, ce, h0, X', hL, e1, e2, ⟨u, hp, hb, hF⟩, hce, hcv, hcl, st⟩
  · cases hv
    obtain ⟨k1, k2, k3⟩ := vx_keep h0 e1 hS hA hf hL hF
    obtain ⟨t2, a1, b1⟩ := kk r u t T'.heap (locs ++ L) e1.symm (by rw [← e2]; exact X'.warmed.alike) hp hb k1 k2 k3 T' rfl X'
    exact ⟨t2, st t2 a1, b1⟩
  · obtain ⟨k1, k2, k3⟩ := vx_keep h0 e1 hS hAX hf hL hF
    obtain ⟨t2, a1, b1⟩ := kx E ce q u t T'.heap (locs ++ L) e1.symm (by rw [← e2]; exact X'.warmed.alike) hp hb k1 k2 k3 (by rw [e1]; exact hce) hcv hcl T' rfl X'
    exact ⟨t2, st.trans a1, b1⟩
theorem vx_calld {S SX : Type} {post : UInt64 → S → Prop} {px : SX → Prop} {B : S → State → Prop} {BX : String → SX → State → Prop} {AX : Nat → Prop} (hr : vx_Run p l e R s m args below meth c H locs cells slots mc ms (F0 m pc ls st0) rest (va_Qd post B A1 a) (vx_X px BX AX) free) (hS : va_S A0 H0 H locs) (hA : ∀ q, q < H.size → A1 q → A0 q) (hf : ∀ q, free q → A0 q) (hAX : ∀ q, q < H.size → AX q → A0 q)
    (kx : ∀ (E : String) (ce : Cell) (q9 : Addr) (u : SX) (t : State) (H1 : Heap) (locs1 : List Loc), t.heap = H1 → s.vm.Alike t.vm → px u → BX E u t → H.size ≤ H1.size → (∀ q : Nat, q < H.size → ¬ AX q → H1[q]? = H[q]?) → va_S A0 H0 H1 locs1 → H1[q9]? = some ce → ce.vm = .none → s.vm.findClass E = some ce.cls → vx_W p l e R s m args below meth c H1 locs1 (cells + mc) (slots + ms) Q (F0 m pc ls rest) q9)
    (kk : ∀ (r : UInt64) (u : S) (t : State) (H1 : Heap) (locs1 : List Loc), t.heap = H1 → s.vm.Alike t.vm → post r u → B u t → H.size ≤ H1.size → (∀ q : Nat, q < H.size → ¬ A1 q → H1[q]? = H[q]?) → va_S A0 H0 H1 locs1 → W p l e R s m args below meth c H1 locs1 (cells + mc) (slots + ms) Q (F0 m (pc + 3) ls (.double r :: rest))) : W p l e R s m args below meth c H locs cells slots Q (F0 m pc ls st0) := by
  intro T hT X
  rcases hr T hT X with ⟨v, st₀, t, T', L, h0, X', hL, e1, e2, ⟨⟨r, u, hv, hp, hb⟩, hF⟩, st⟩ | ⟨q, st₀, t, T', L, E, ce, h0, X', hL, e1, e2, ⟨u, hp, hb, hF⟩, hce, hcv, hcl, st⟩
  · cases hv
    obtain ⟨k1, k2, k3⟩ := vx_keep h0 e1 hS hA hf hL hF
    obtain ⟨t2, a1, b1⟩ := kk r u t T'.heap (locs ++ L) e1.symm (by rw [← e2]; exact X'.warmed.alike) hp hb k1 k2 k3 T' rfl X'
    exact ⟨t2, st t2 a1, b1⟩
  · obtain ⟨k1, k2, k3⟩ := vx_keep h0 e1 hS hAX hf hL hF
    obtain ⟨t2, a1, b1⟩ := kx E ce q u t T'.heap (locs ++ L) e1.symm (by rw [← e2]; exact X'.warmed.alike) hp hb k1 k2 k3 (by rw [e1]; exact hce) hcv hcl T' rfl X'
    exact ⟨t2, st.trans a1, b1⟩
theorem vx_callv {S SX : Type} {post : S → Prop} {px : SX → Prop} {B : S → State → Prop} {BX : String → SX → State → Prop} {AX : Nat → Prop} (hr : vx_Run p l e R s m args below meth c H locs cells slots mc ms (F0 m pc ls st0) rest (va_Qv post B A1 a) (vx_X px BX AX) free) (hS : va_S A0 H0 H locs) (hA : ∀ q, q < H.size → A1 q → A0 q) (hf : ∀ q, free q → A0 q) (hAX : ∀ q, q < H.size → AX q → A0 q)
    (kx : ∀ (E : String) (ce : Cell) (q9 : Addr) (u : SX) (t : State) (H1 : Heap) (locs1 : List Loc), t.heap = H1 → s.vm.Alike t.vm → px u → BX E u t → H.size ≤ H1.size → (∀ q : Nat, q < H.size → ¬ AX q → H1[q]? = H[q]?) → va_S A0 H0 H1 locs1 → H1[q9]? = some ce → ce.vm = .none → s.vm.findClass E = some ce.cls → vx_W p l e R s m args below meth c H1 locs1 (cells + mc) (slots + ms) Q (F0 m pc ls rest) q9)
    (kk : ∀ (u : S) (t : State) (H1 : Heap) (locs1 : List Loc), t.heap = H1 → s.vm.Alike t.vm → post u → B u t → H.size ≤ H1.size → (∀ q : Nat, q < H.size → ¬ A1 q → H1[q]? = H[q]?) → va_S A0 H0 H1 locs1 → W p l e R s m args below meth c H1 locs1 (cells + mc) (slots + ms) Q (F0 m (pc + 3) ls (rest))) : W p l e R s m args below meth c H locs cells slots Q (F0 m pc ls st0) := by
  intro T hT X
  rcases hr T hT X with ⟨v, st₀, t, T', L, h0, X', hL, e1, e2, ⟨⟨u, hv, hp, hb⟩, hF⟩, st⟩ | ⟨q, st₀, t, T', L, E, ce, h0, X', hL, e1, e2, ⟨u, hp, hb, hF⟩, hce, hcv, hcl, st⟩
  · cases hv
    obtain ⟨k1, k2, k3⟩ := vx_keep h0 e1 hS hA hf hL hF
    obtain ⟨t2, a1, b1⟩ := kk u t T'.heap (locs ++ L) e1.symm (by rw [← e2]; exact X'.warmed.alike) hp hb k1 k2 k3 T' rfl X'
    exact ⟨t2, st t2 a1, b1⟩
  · obtain ⟨k1, k2, k3⟩ := vx_keep h0 e1 hS hAX hf hL hF
    obtain ⟨t2, a1, b1⟩ := kx E ce q u t T'.heap (locs ++ L) e1.symm (by rw [← e2]; exact X'.warmed.alike) hp hb k1 k2 k3 (by rw [e1]; exact hce) hcv hcl T' rfl X'
    exact ⟨t2, st.trans a1, b1⟩
/-- caught by the row x of this method's table; the rows ahead don't take it -/
theorem vx_catch {own name : String} {E : String} {ce : Cell} {q : Addr} (hown : s.vm.findClass own = some m.cls) (pre : List ExceptionTableEntry) (x : ExceptionTableEntry) (suf : List ExceptionTableEntry) (hsplit : c.exceptionTable.toList = pre ++ x :: suf)
    (hpass : ∀ z ∈ pre, covers z pc = false ∨ (z.catchType ≠ 0 ∧ ∃ nm : String, (Cond.classLink own z.catchType nm).before args s = true ∧ va_Nc E nm s)) (hx : covers x pc = true) (h0 : x.catchType ≠ 0)
    (hlink : (Cond.classLink own x.catchType name).before args s = true) (hcast : (Cond.castable E name).before args s = true) (hcell : H[q]? = some ce) (hv : ce.vm = .none) (hcl : s.vm.findClass E = some ce.cls)
    (kk : W p l e R s m args below meth c H locs cells slots Q (F0 m x.handlerPc ls [.ref q])) : vx_W p l e R s m args below meth c H locs cells slots Q (F0 m pc ls rest) q := by
  intro T hT X
  have hpl : e.platform.magicAccessors = ({} : Platform).magicAccessors := by rw [X.admits.platform]
  obtain ⟨c3, c4, hc3, hc4, hasg⟩ := Cond.castable_spec hcast
  cases Option.some.inj (hc3.symm.trans hcl)
  obtain ⟨c5, hc5, hcl5⟩ := Cond.classLink_spec hown hlink e.platform hpl
  cases Option.some.inj (hc4.symm.trans hc5)
  obtain ⟨vm', X', st⟩ := X.thenCaughtThrough q (g := F0 m pc ls rest) rfl (Steps.refl _) (by rw [hT]; exact hcell) (by rw [hv]; rfl) (by obtain ⟨k9, h9, -⟩ := Vm.findClass_spec hcl; exact ⟨k9, h9⟩) pre x suf hsplit
    (fun z hz => by
      rcases hpass z hz with h | ⟨hz0, nm, hl1, hn1⟩
      · exact Or.inl h
      · obtain ⟨c6, hc6, hcl6⟩ := Cond.classLink_spec hown hl1 e.platform hpl
        obtain ⟨a8, b8, h1, h2, h3⟩ := hn1
        cases Option.some.inj (h1.symm.trans hcl)
        cases Option.some.inj (h2.symm.trans hc6)
        exact Or.inr ⟨hz0, _, hcl6, h3⟩) hx (Or.inr ⟨h0, c4, hcl5, hasg⟩)
  obtain ⟨t, a1, b1⟩ := kk (T.setVm vm') hT X'
  exact ⟨t, st.trans a1, b1⟩
end Rows
section Ends
variable {p : Program} {l : Launch} {e : Env} {R : Room} {s : State} {m : MethodId} {args : Array Value} {below : List Frame} {meth : Method} {c : Code} {H : Heap} {locs : List Loc} {cells slots : Nat} {Q : State → Prop}
variable {mc ms : Nat} {free : Addr → Prop} {A0 A1 : Nat → Prop} {H0 : Heap} {a : Array Value} {ls : Array Slot} {st0 rest : List Value}
variable {Qc : Array Value → State → Outcome → State → Prop} {XC : String → State → State → Prop}
/-- what a body that may throw owes at its end -/
def vx_MQ (below : List Frame) (Qc : Array Value → State → Outcome → State → Prop) (XC : String → State → State → Prop) (a : Array Value) (s : State) (mc ms : Nat) (free : Addr → Prop) : State → Prop := fun t =>
  ∃ o, t.status = .running ∧ Ended t below o ∧ vx_Q Qc XC mc ms free a s o t
theorem vx_ret {g : JFrame} {mc ms : Nat} (k : W p l e R s m args below meth c H locs cells slots (MQ below Qc args s mc ms free) g) : W p l e R s m args below meth c H locs cells slots (vx_MQ below Qc XC args s mc ms free) g := by
  intro T hT X
  obtain ⟨t, a1, o, b1, b2, b3, b4⟩ := k T hT X
  exact ⟨t, a1, o, b1, b2, Or.inl ⟨b3, b4⟩⟩
/-- not caught here: it goes on to the caller -/
theorem vx_widen {g : JFrame} {q : Addr} {k n : Nat} (h1 : cells ≤ k) (h2 : slots ≤ n) (kk : vx_W p l e R s m args below meth c H locs k n Q g q) : vx_W p l e R s m args below meth c H locs cells slots Q g q := fun T hT X => kk T hT (stand_widen X h1 h2)
theorem vx_out {pc : Nat} {E : String} {ce : Cell} {q : Addr} {mc ms : Nat} (hout : ∀ x ∈ c.exceptionTable.toList, covers x pc = false) (hlocks : meth.locks = false) (hcell : H[q]? = some ce) (hv : ce.vm = .none) (hcl : s.vm.findClass E = some ce.cls)
    (hx : ∀ t : State, t.heap = H → s.vm.Alike t.vm → XC E s t) (hf : ∀ z ∈ locs, free z.base) (hc : cells ≤ mc) (hs : slots ≤ ms) :
    vx_W p l e R s m args below meth c H locs cells slots (vx_MQ below Qc XC args s mc ms free) (F0 m pc ls rest) q := by
  intro T hT X
  obtain ⟨st1, hrun, hend, hW, hsm⟩ := X.leaveThrown q (g := F0 m pc ls rest) rfl rfl rfl hout hlocks
  have hcell9 : (T.setFrames (.throwing q :: below)).heap[q]? = some ce := by
    show T.heap[q]? = some ce
    rw [hT]; exact hcell
  exact ⟨_, st1, .threw q, hrun, hend, Or.inr ⟨q, rfl, E, ce, locs, hx _ hT hW.alike, hcell9, hv, hcl, hW, hsm.mono hc hs, hf⟩⟩
theorem vx_frame {U : State} {k n : Nat} (h : s.sameButNew ({ U with vm := s.vm } : State) locs k n) : s.heap.size ≤ U.heap.size ∧ ∀ q : Nat, q < s.heap.size → (∀ z ∈ locs, z.base ≠ q) → U.heap[q]? = s.heap[q]? := by
  obtain ⟨-, h2, -, -, -, h6⟩ := h
  refine ⟨h2, fun q hq hz => ?_⟩
  obtain ⟨c9, e1, e2, e3, e4⟩ := h6 q _ (Array.getElem?_eq_getElem hq)
  have hs : c9.slots = (s.heap[q]).slots := Array.ext_getElem? fun i => e4 i fun hm => hz _ hm rfl
  have h9 : c9 = s.heap[q] := by
    rw [hs] at e2
    exact e2
  have e5 : U.heap[q]? = some c9 := e1
  rw [e5, h9, Array.getElem?_eq_getElem hq]
/-- the words of a throw but the four that speak of the heap -/
def vx_no (w : Cond) : Bool := decide (w ≠ .isRef (.static Bundle.tN "UNASSIGNED_STACK" Bundle.steD)) && decide (w ≠ .isRef (.static Bundle.tN "SUPPRESSED_SENTINEL" Bundle.listD)) && decide (w ≠ .laysStatic Bundle.tN "UNASSIGNED_STACK" Bundle.steD) && decide (w ≠ .laysStatic Bundle.tN "SUPPRESSED_SENTINEL" Bundle.listD)
def vx_at0 (own : String) (ic : Nat) (X : String) (names : List String) : List Cond := (Bundle.ownAtoms0 own ic X names).filter vx_no
def vx_atS (own : String) (ic : Nat) (X : String) (names : List String) : List Cond := (Bundle.ownAtoms own ic X names).filter vx_no
/-- a word that the tables alone decide, or a good one -/
def vx_ot (w : Cond) : Bool := w.onTables || goodWord w
theorem vx_ot_at {args a' : Array Value} {s U : State} {w : Cond} (hW : s.WarmedH U.vm) (hvm : s.vm = U.vm) (hg : vx_ot w = true) (h : w.before args s = true) : w.before a' U = true := by
  simp only [vx_ot, Bool.or_eq_true] at hg
  rcases hg with hg | hg
  · exact va_tabs hg hvm h
  · exact word_at hW (good_of_word hg) h
/-- a list's words: the good ones out of the method's own list, the others by premises of their own -/
theorem vx_hat {args : Array Value} {s : State} {L B : List Cond} (h1 : ∀ w ∈ L.filter goodWord, w.before args s = true) (h2 : ∀ w ∈ L.filter (fun w => !goodWord w), w ∈ B) (h3 : ∀ w ∈ B, w.before args s = true) : ∀ w ∈ L, w.before args s = true := by
  intro w hw
  by_cases g : goodWord w = true
  · exact h1 w (List.mem_filter.mpr ⟨hw, g⟩)
  · refine h3 w (h2 w (List.mem_filter.mpr ⟨hw, ?_⟩))
    show (!goodWord w) = true
    cases hgw : goodWord w
    · rfl
    · exact absurd hgw g
theorem vx_c {args : Array Value} {s : State} {w : Cond} {B : List Cond} (h : w.before args s = true) (t : ∀ w ∈ B, w.before args s = true) : ∀ w' ∈ w :: B, w'.before args s = true := fun w' h' => (List.mem_cons.mp h').elim (fun e => by rw [e]; exact h) (t w')
theorem vx_n {args : Array Value} {s : State} : ∀ w ∈ ([] : List Cond), w.before args s = true := fun _ h => nomatch h
theorem vx_own {args : Array Value} {s : State} {L : List Cond} (h1 : ∀ w ∈ L.filter vx_no, w.before args s = true)
    (hU : (Cond.isRef (.static Bundle.tN "UNASSIGNED_STACK" Bundle.steD)).before args s = true) (hN : (Cond.isRef (.static Bundle.tN "SUPPRESSED_SENTINEL" Bundle.listD)).before args s = true)
    (lU : (Cond.laysStatic Bundle.tN "UNASSIGNED_STACK" Bundle.steD).before args s = true) (lN : (Cond.laysStatic Bundle.tN "SUPPRESSED_SENTINEL" Bundle.listD).before args s = true) : ∀ w ∈ L, w.before args s = true := by
  intro w hw
  by_cases e1 : w = .isRef (.static Bundle.tN "UNASSIGNED_STACK" Bundle.steD)
  · rw [e1]; exact hU
  · by_cases e2 : w = .isRef (.static Bundle.tN "SUPPRESSED_SENTINEL" Bundle.listD)
    · rw [e2]; exact hN
    · by_cases e3 : w = .laysStatic Bundle.tN "UNASSIGNED_STACK" Bundle.steD
      · rw [e3]; exact lU
      · by_cases e4 : w = .laysStatic Bundle.tN "SUPPRESSED_SENTINEL" Bundle.listD
        · rw [e4]; exact lN
        · exact h1 w (List.mem_filter.mpr ⟨hw, by unfold vx_no; rw [decide_eq_true e1, decide_eq_true e2, decide_eq_true e3, decide_eq_true e4]; rfl⟩)
/-- where a static field lies, its class's statics cell in H -/
def vx_L (C n d : String) (A : Nat → Prop) (U : State) (H : Heap) : Prop := ∃ (c : ClassId) (k : Class) (i : Nat) (f : Field) (a : Nat) (cell : Cell), U.vm.findClass C = some c ∧ U.fieldFound? C n d = some (c, k, i, f) ∧ f.isStatic = true ∧ k.statics = some a ∧ H[a]? = some cell ∧ cell.vm.isStatics = true ∧ cell.cls = c ∧ f.slot < cell.slots.size ∧ k.staticTypes[f.slot]? = some f.type ∧ ¬ A a
theorem vx_L.moved {C n d : String} {A : Nat → Prop} {u U : State} {H : Heap} (hvm : u.vm.Alike U.vm) (h : vx_L C n d A u H) : vx_L C n d A U H := by
  obtain ⟨c, k, i, f, a, cell, h1, h2, h3, h4, h5, h6, h7, h8, h9, h10⟩ := h
  obtain ⟨k', hi', he⟩ := State.fieldFound?_setVm hvm h2
  exact ⟨c, k', i, f, a, cell, by rw [hvm.findClass]; exact h1, hi', h3, by rw [he]; exact h4, h5, h6, h7, h8, by rw [he]; exact h9, h10⟩
theorem vx_L.kept {C n d : String} {A : Nat → Prop} {U : State} {H H1 : Heap} (h : vx_L C n d A U H) (hq : ∀ a : Nat, a < H.size → ¬ A a → H1[a]? = H[a]?) : vx_L C n d A U H1 := by
  obtain ⟨c, k, i, f, a, cell, h1, h2, h3, h4, h5, h6, h7, h8, h9, h10⟩ := h
  exact ⟨c, k, i, f, a, cell, h1, h2, h3, h4, by rw [hq a (Array.getElem?_eq_some_iff.mp h5).1 h10]; exact h5, h6, h7, h8, h9, h10⟩
theorem vx_L.narrow {C n d : String} {A B : Nat → Prop} {U : State} {H : Heap} (h : vx_L C n d A U H) (hAB : ∀ q, B q → A q) : vx_L C n d B U H := by
  obtain ⟨c, k, i, f, a, cell, h1, h2, h3, h4, h5, h6, h7, h8, h9, h10⟩ := h
  exact ⟨c, k, i, f, a, cell, h1, h2, h3, h4, h5, h6, h7, h8, h9, fun z => h10 (hAB _ z)⟩
theorem vx_L.word {C n d : String} {A : Nat → Prop} {s : State} {args : Array Value} (h : vx_L C n d A s s.heap) : (Cond.laysStatic C n d).before args s = true := by
  obtain ⟨c, k, i, f, a, cell, h1, h2, h3, h4, h5, h6, h7, h8, h9, -⟩ := h
  show (Cond.laysStatic C n d).holds args s none s [] = true
  exact Cond.laysStatic_of h1 h2 h3 h4 h5 h6 h7 h8 h9
/-- .. and what it holds: null or some reference -/
def vx_Zq (C n d : String) (A : Nat → Prop) (U : State) (H : Heap) : Prop := va_Zq C n d A U H ∧ vx_L C n d A U H
theorem vx_Zq.moved {C n d : String} {A : Nat → Prop} {u U : State} {H : Heap} (hvm : u.vm.Alike U.vm) (h : vx_Zq C n d A u H) : vx_Zq C n d A U H := ⟨va_Zq.moved hvm h.1, vx_L.moved hvm h.2⟩
theorem vx_Zq.kept {C n d : String} {A : Nat → Prop} {U : State} {H H1 : Heap} (h : vx_Zq C n d A U H) (hq : ∀ a : Nat, a < H.size → ¬ A a → H1[a]? = H[a]?) : vx_Zq C n d A U H1 := ⟨va_Zq.kept h.1 hq, vx_L.kept h.2 hq⟩
theorem vx_Zq.narrow {C n d : String} {A B : Nat → Prop} {U : State} {H : Heap} (h : vx_Zq C n d A U H) (hAB : ∀ q, B q → A q) : vx_Zq C n d B U H := ⟨va_Zq.narrow h.1 hAB, vx_L.narrow h.2 hAB⟩
theorem vx_Zqof {args : Array Value} {s : State} {C n d : String} {A : Nat → Prop} (hl : (Cond.laysStatic C n d).before args s = true) (hini : (Cond.initialized C).before args s = true) (h : (Cond.isRef (.static C n d)).before args s = true) (hA : ∀ a : Nat, a < s.heap.size → ¬ A a) : vx_Zq C n d A s s.heap := by
  refine ⟨va_Zqof hl hini h hA, ?_⟩
  obtain ⟨c, k, i, f, a, cell, h1, h2, h3, h4, h5, h6, h7, h8, h9⟩ := Cond.laysStatic_spec hl
  exact ⟨c, k, i, f, a, cell, h1, h2, h3, h4, h5, h6, h7, h8, h9, hA a (Array.getElem?_eq_some_iff.mp h5).1⟩
theorem vx_isRef {C n d : String} {v : Value} {A : Nat → Prop} {s : State} {args : Array Value} (h : va_Z C n d v A s s.heap) (hv : v.isRef = true) : (Cond.isRef (.static C n d)).before args s = true := by
  obtain ⟨cf, kf, fi, f, a, cell, h1, h2, h3, h4, h5, h6, h7, -⟩ := h
  have he : (Term.static C n d).eval args s none [] s = some v := by
    simp [Term.eval, State.fieldNamed?, h1, h2, h4, h5, h6, h7]
  simp only [Cond.before, Cond.holds, Cond.value, he]
  cases v <;> simp_all [Value.isRef]
theorem vx_isRefq {C n d : String} {A : Nat → Prop} {s : State} {args : Array Value} (h : va_Zq C n d A s s.heap) : (Cond.isRef (.static C n d)).before args s = true := by
  rcases h with h | ⟨t, h⟩
  · exact vx_isRef h rfl
  · exact vx_isRef h rfl
/-- the same frame, seen from here: as if the method were called anew in this heap -/
theorem vx_rebase {T : State} (X : Stand p l e R s m args below meth c T locs cells slots) {R' : Room} (hf : R'.frames ≤ R.frames) (hl : R'.locals ≤ R.locals) (hc : cells + R'.cells ≤ R.cells) (hs : slots + R'.slots ≤ R.slots) :
    Stand p l e R' ((T.setVm s.vm).setFrames (.invoking m args :: below)) m args below meth c T [] 0 0 := by
  have htop : (T.setVm s.vm).topJava?.isSome := X.here.top
  have hF : ((T.setVm s.vm).setFrames (.invoking m args :: below)).frames = .invoking m args :: below := State.frames_setFrames _ (State.cur_lt_of_top htop)
  obtain ⟨g₀, hg0⟩ := Option.isSome_iff_exists.mp htop
  obtain ⟨r, hr⟩ := State.topJava?_eq_some.mp hg0
  have hl9 : e.platform.stackLimits (T.setVm s.vm).me = e.platform.stackLimits s.me := X.limits
  have hb9 : (T.setVm s.vm).me.stackBytes = s.me.stackBytes := X.bytes
  refine ⟨X.admits, X.cas, X.clock, hF, ?_, X.hears, X.method, X.code, X.here, X.tail, X.warmed, ?_, ?_, ?_⟩
  · have h := X.room
    have hU : ((T.setVm s.vm).setFrames (.invoking m args :: below)).localsInUse = s.localsInUse := by
      rw [State.localsInUse_invoking hF (meth := meth) (c := c) X.method X.code, State.localsInUse_invoking X.frames X.method X.code]
    simp only [State.hasRoom, Bool.and_eq_true, decide_eq_true_eq] at h ⊢
    obtain ⟨⟨⟨⟨h1, h2, h3, h4, h5, h6⟩, h7⟩, h8⟩, h9⟩ := h
    rw [X.frames, List.length_cons] at h2 h3
    have q1 := X.heapSize
    have q2 := X.used
    simp only [hF, hU, List.length_cons, State.stackLimits_setFrames, State.stackBytes_setFrames, hl9, hb9]
    refine ⟨⟨⟨⟨by omega, by omega, by omega, by omega, by omega, h6⟩, ?_⟩, ?_⟩, X.book⟩
    · show T.heap.size + R'.cells ≤ e.platform.maxCells
      omega
    · show T.slotsUsed + R'.slots ≤ e.platform.maxSlots
      omega
  · rw [State.stackLimits_setFrames]; rfl
  · rw [State.stackBytes_setFrames]; rfl
  · refine ⟨?_, Nat.le_refl _, Nat.le_refl _, ?_, ?_, fun a c9 h9 => ⟨c9, h9, rfl, rfl, fun _ _ => rfl⟩⟩
    · obtain ⟨t, ht, -⟩ := State.frames_cons hr
      show T.setVm s.vm = { ((T.setVm s.vm).setFrames (.invoking m args :: below)).setFrames (T.setVm s.vm).frames with heap := T.heap, slotsUsed := T.slotsUsed }
      rw [State.setFrames_setFrames, State.setFrames_self ht]
      rfl
    · show T.slotsUsed = T.slotsUsed + ((T.heap.toList.drop T.heap.size).map (·.slots.size)).sum
      rw [List.drop_eq_nil_of_le (Nat.le_of_eq Array.length_toList)]
      rfl
    · show ((T.heap.toList.drop T.heap.size).map (·.slots.size)).sum ≤ 0
      rw [List.drop_eq_nil_of_le (Nat.le_of_eq Array.length_toList)]
      exact Nat.le_refl _
/-- 'throw new E()': new; dup; invokespecial; athrow -/
theorem vx_throw0 {cc : ByteArray} {pc : Nat} (hexec : p.tables.exec = Jvm.exec) (hb : c.code = cc) (hl : l.stackTraces = false) {own cls : String} {names : List String} {ik ic mc ms : Nat} {A : Nat → Prop}
    (hown : s.vm.findClass own = some m.cls) (hcls : Bundle.fit cls = true) (hnames : ∀ n ∈ names, Bundle.fit n = true)
    (hk : (Cond.classLink own ik cls).before args s = true) (hini : (Cond.initialized cls).before args s = true) (hat : ∀ w ∈ vx_at0 own ic cls names, w.before args s = true)
    (hgood : ∀ w ∈ Cond.classLink own ik cls :: Cond.initialized cls :: vx_at0 own ic cls names, vx_ot w = true)
    (hU : vx_Zq Bundle.tN "UNASSIGNED_STACK" Bundle.steD A s s.heap) (hN : vx_Zq Bundle.tN "SUPPRESSED_SENTINEL" Bundle.listD A s s.heap) (hS : va_S A s.heap H locs) (hsize : ls.size = c.maxLocals)
    (d0 : decode cc pc = .ok (.new ik, 3)) (d3 : decode cc (pc + 3) = .ok (.dup, 1)) (d4 : decode cc (pc + 4) = .ok (.invokespecial ic, 3)) (d7 : decode cc (pc + 7) = .ok (.athrow, 1))
    (hout : ∀ x ∈ c.exceptionTable.toList, covers x (pc + 7) = false)
    (hRframes : names.length + 3 < R.frames) (hRlocals : (rest.map fun v => v.category).sum + (13 * (names.length + 1) + 42) ≤ R.locals) (hRcells : cells + 1 ≤ R.cells) (hRslots : slots + 6 ≤ R.slots) (hlocks : meth.locks = false)
    (hx : ∀ t : State, s.vm.Alike t.vm → H.size ≤ t.heap.size → (∀ q : Nat, q < H.size → t.heap[q]? = H[q]?) → XC cls s t)
    (hf : ∀ z ∈ locs, free z.base) (hc : cells + 1 ≤ mc) (hs : slots + 6 ≤ ms) :
    W p l e R s m args below meth c H locs cells slots (vx_MQ below Qc XC args s mc ms free) (F0 m pc ls rest) := by
  intro T hT X
  have htr : e.platform.stackTraces = false := (show e.platform.stackTraces = l.stackTraces by rw [X.admits.platform]).trans hl
  have Y := vx_rebase X (R' := { frames := R.frames, locals := R.locals, cells := 1, slots := 6 }) (Nat.le_refl _) (Nat.le_refl _) hRcells hRslots
  obtain ⟨s', hA⟩ : ∃ z, z = (T.setVm s.vm).setFrames (.invoking m args :: below) := ⟨_, rfl⟩
  rw [← hA] at Y
  have hvm : s'.vm = s.vm := by rw [hA]; rfl
  have hhp : s'.heap = H := by rw [hA]; exact hT
  have hW0 : s.WarmedH s'.vm := by rw [hvm]; exact State.WarmedH.refl s
  have hat' : ∀ w ∈ vx_at0 own ic cls names, w.before args s' = true := fun w hw => vx_ot_at hW0 hvm.symm (hgood w (List.mem_cons_of_mem _ (List.mem_cons_of_mem _ hw))) (hat w hw)
  have hk' : (Cond.classLink own ik cls).before args s' = true := vx_ot_at hW0 hvm.symm (hgood _ List.mem_cons_self) hk
  have hini' : (Cond.initialized cls).before args s' = true := vx_ot_at hW0 hvm.symm (hgood _ (List.mem_cons_of_mem _ List.mem_cons_self)) hini
  have hU' : vx_Zq Bundle.tN "UNASSIGNED_STACK" Bundle.steD A s' s'.heap := by rw [hhp]; exact vx_Zq.moved hW0.alike (hU.kept hS.2.1)
  have hN' : vx_Zq Bundle.tN "SUPPRESSED_SENTINEL" Bundle.listD A s' s'.heap := by rw [hhp]; exact vx_Zq.moved hW0.alike (hN.kept hS.2.1)
  have h : ∀ w ∈ Bundle.ownAtoms0 own ic cls names, w.before args s' = true := vx_own hat' (vx_isRefq hU'.1) (vx_isRefq hN'.1) hU'.2.word hN'.2.word
  have hown' : s'.vm.findClass own = some m.cls := by rw [hvm]; exact hown
  have hins : (Cond.instantiable cls 6).before args s' = true := h _ (by simp [Bundle.ownAtoms0])
  obtain ⟨vm₁, cX, kX, hfX, hkX, -, -, X₁, st1⟩ := Y.newCold hexec (own := own) (C := cls) (index := ik) (n := 6) hown' hk' hins hini'
    (g := F0 m pc ls rest) rfl (by rw [hb]; exact d0) (Nat.le_refl _) (Nat.le_refl _)
  generalize hT1 : (T.setVm vm₁).pushCell { cls := cX, slots := kX.instanceTypes.map defaultValue, vm := .none } = T1 at X₁ st1
  have hcat : (Value.ref T.heap.size).category = 1 := rfl
  have hcellA : T1.heap[T.heap.size]? = some (freshCell cX kX) := by rw [← hT1]; exact State.heap_pushCell_size _ _
  have d3' : decode c.code (pc + 3) = .ok (.dup, 1) := by rw [hb]; exact d3
  obtain ⟨U, hsteps, hrun, hend, hW, hsame, ce, hce, hO⟩ := X₁.ctorThrow0 hexec htr (own := own) (cls := cls) (names := names) (ic := ic) hown' hcls hnames h (fun x hx => nomatch hx) hfX hkX hcellA (by rw [hhp, hT]; exact Nat.le_refl _)
    (g := { method := m, pc := pc + 4, locals := ls, stack := .ref T.heap.size :: .ref T.heap.size :: rest, locked := none }) rfl hsize rfl rfl (rest := rest) rfl
    (by rw [hb]; exact d4) (by rw [hb]; exact d7) hout hRframes (by simp only [List.map_cons, List.sum_cons, hcat]; omega) hlocks
  obtain ⟨f1, f2⟩ := vx_frame hsame
  rw [hhp] at f1 f2
  have hWs : s.WarmedH U.vm := State.WarmedH.trans hW0 hW
  have hcl : s.vm.findClass cls = some ce.cls := by
    have h9 := hO.cls
    rw [hvm] at h9
    exact h9
  have hall : s.sameButNew ({ U with vm := s.vm } : State) locs mc ms := by
    subst hA
    obtain ⟨e1, e2⟩ := hsame
    rw [State.setFrames_setFrames] at e1
    have h2 : (T.setVm s.vm).sameButNew ({ U with vm := s.vm } : State) [] (0 + 1) (0 + 6) := ⟨e1, e2⟩
    have h3 := X.same.trans h2
    rw [List.append_nil] at h3
    exact h3.mono hc hs
  refine ⟨U, ?_, .threw T.heap.size, hrun, hend, Or.inr ⟨T.heap.size, rfl, cls, ce, locs, hx U hWs.alike f1 (fun q hq => f2 q hq (fun z hz => nomatch hz)), hce, hO.vm, hcl, hWs, hall, hf⟩⟩
  refine st1 _ ?_
  show Steps p.tables e below (T1.setTop { method := m, pc := pc + 3, locals := ls, stack := .ref T.heap.size :: rest, locked := none }) _
  jvm_step X₁.here [X₁.here.top, hexec, d3', Value.category]
  exact hsteps
/-- 'throw new E("text")': new; dup; ldc; invokespecial; athrow -/
theorem vx_throwS {cc : ByteArray} {pc : Nat} (hexec : p.tables.exec = Jvm.exec) (hb : c.code = cc) (hl : l.stackTraces = false) {own cls text : String} {names : List String} {ik is ic mc ms sa : Nat} {A : Nat → Prop}
    (hown : s.vm.findClass own = some m.cls) (hcls : Bundle.fit cls = true) (hnames : ∀ n ∈ names, Bundle.fit n = true)
    (hk : (Cond.classLink own ik cls).before args s = true) (hini : (Cond.initialized cls).before args s = true) (hstr : vk_R own is text sa s) (hat : ∀ w ∈ vx_atS own ic cls names, w.before args s = true)
    (hgood : ∀ w ∈ Cond.classLink own ik cls :: Cond.initialized cls :: vx_atS own ic cls names, vx_ot w = true)
    (hU : vx_Zq Bundle.tN "UNASSIGNED_STACK" Bundle.steD A s s.heap) (hN : vx_Zq Bundle.tN "SUPPRESSED_SENTINEL" Bundle.listD A s s.heap) (hS : va_S A s.heap H locs) (hsize : ls.size = c.maxLocals)
    (d0 : decode cc pc = .ok (.new ik, 3)) (d3 : decode cc (pc + 3) = .ok (.dup, 1)) (d4 : decode cc (pc + 4) = .ok (.ldc is, 2)) (d6 : decode cc (pc + 6) = .ok (.invokespecial ic, 3)) (d9 : decode cc (pc + 9) = .ok (.athrow, 1))
    (hout : ∀ x ∈ c.exceptionTable.toList, covers x (pc + 9) = false)
    (hRframes : names.length + 3 < R.frames) (hRlocals : (rest.map fun v => v.category).sum + (13 * (names.length + 1) + 43) ≤ R.locals) (hRcells : cells + 1 ≤ R.cells) (hRslots : slots + 6 ≤ R.slots) (hlocks : meth.locks = false)
    (hx : ∀ t : State, s.vm.Alike t.vm → H.size ≤ t.heap.size → (∀ q : Nat, q < H.size → t.heap[q]? = H[q]?) → XC cls s t)
    (hf : ∀ z ∈ locs, free z.base) (hc : cells + 1 ≤ mc) (hs : slots + 6 ≤ ms) :
    W p l e R s m args below meth c H locs cells slots (vx_MQ below Qc XC args s mc ms free) (F0 m pc ls rest) := by
  intro T hT X
  have htr : e.platform.stackTraces = false := (show e.platform.stackTraces = l.stackTraces by rw [X.admits.platform]).trans hl
  have Y := vx_rebase X (R' := { frames := R.frames, locals := R.locals, cells := 1, slots := 6 }) (Nat.le_refl _) (Nat.le_refl _) hRcells hRslots
  obtain ⟨s', hA⟩ : ∃ z, z = (T.setVm s.vm).setFrames (.invoking m args :: below) := ⟨_, rfl⟩
  rw [← hA] at Y
  have hvm : s'.vm = s.vm := by rw [hA]; rfl
  have hhp : s'.heap = H := by rw [hA]; exact hT
  have hW0 : s.WarmedH s'.vm := by rw [hvm]; exact State.WarmedH.refl s
  have hat' : ∀ w ∈ vx_atS own ic cls names, w.before args s' = true := fun w hw => vx_ot_at hW0 hvm.symm (hgood w (List.mem_cons_of_mem _ (List.mem_cons_of_mem _ hw))) (hat w hw)
  have hk' : (Cond.classLink own ik cls).before args s' = true := vx_ot_at hW0 hvm.symm (hgood _ List.mem_cons_self) hk
  have hini' : (Cond.initialized cls).before args s' = true := vx_ot_at hW0 hvm.symm (hgood _ (List.mem_cons_of_mem _ List.mem_cons_self)) hini
  have hU' : vx_Zq Bundle.tN "UNASSIGNED_STACK" Bundle.steD A s' s'.heap := by rw [hhp]; exact vx_Zq.moved hW0.alike (hU.kept hS.2.1)
  have hN' : vx_Zq Bundle.tN "SUPPRESSED_SENTINEL" Bundle.listD A s' s'.heap := by rw [hhp]; exact vx_Zq.moved hW0.alike (hN.kept hS.2.1)
  have h : ∀ w ∈ Bundle.ownAtoms own ic cls names, w.before args s' = true := vx_own hat' (vx_isRefq hU'.1) (vx_isRefq hN'.1) hU'.2.word hN'.2.word
  have hown' : s'.vm.findClass own = some m.cls := by rw [hvm]; exact hown
  have hins : (Cond.instantiable cls 6).before args s' = true := h _ (by simp [Bundle.ownAtoms])
  obtain ⟨vm₁, cX, kX, hfX, hkX, -, -, X₁, st1⟩ := Y.newCold hexec (own := own) (C := cls) (index := ik) (n := 6) hown' hk' hins hini'
    (g := F0 m pc ls rest) rfl (by rw [hb]; exact d0) (Nat.le_refl _) (Nat.le_refl _)
  generalize hT1 : (T.setVm vm₁).pushCell { cls := cX, slots := kX.instanceTypes.map defaultValue, vm := .none } = T1 at X₁ st1
  have hcat : (Value.ref T.heap.size).category = 1 := rfl
  have hcellA : T1.heap[T.heap.size]? = some (freshCell cX kX) := by rw [← hT1]; exact State.heap_pushCell_size _ _
  have d3' : decode c.code (pc + 3) = .ok (.dup, 1) := by rw [hb]; exact d3
  have d4' : decode c.code (pc + 4) = .ok (.ldc is, 2) := by rw [hb]; exact d4
  have hstr' : vk_R own is text sa s' := vk_R.warm hW0 hstr
  obtain ⟨U, hsteps, hrun, hend, hW, hsame, ce, hce, hO⟩ := X₁.ctorThrowS hexec htr (own := own) (cls := cls) (names := names) (ic := ic) hown' hcls hnames h (fun x hx => nomatch hx) hfX hkX hcellA (by rw [hhp, hT]; exact Nat.le_refl _) (msg := .ref sa) rfl
    (g := { method := m, pc := pc + 6, locals := ls, stack := .ref sa :: .ref T.heap.size :: .ref T.heap.size :: rest, locked := none }) rfl hsize rfl rfl (rest := rest) rfl
    (by rw [hb]; exact d6) (by rw [hb]; exact d9) hout hRframes (by simp only [List.map_cons, List.sum_cons, hcat]; omega) hlocks
  obtain ⟨f1, f2⟩ := vx_frame hsame
  rw [hhp] at f1 f2
  have hWs : s.WarmedH U.vm := State.WarmedH.trans hW0 hW
  have hcl : s.vm.findClass cls = some ce.cls := by
    have h9 := hO.cls
    rw [hvm] at h9
    exact h9
  have hall : s.sameButNew ({ U with vm := s.vm } : State) locs mc ms := by
    subst hA
    obtain ⟨e1, e2⟩ := hsame
    rw [State.setFrames_setFrames] at e1
    have h2 : (T.setVm s.vm).sameButNew ({ U with vm := s.vm } : State) [] (0 + 1) (0 + 6) := ⟨e1, e2⟩
    have h3 := X.same.trans h2
    rw [List.append_nil] at h3
    exact h3.mono hc hs
  refine ⟨U, ?_, .threw T.heap.size, hrun, hend, Or.inr ⟨T.heap.size, rfl, cls, ce, locs, hx U hWs.alike f1 (fun q hq => f2 q hq (fun z hz => nomatch hz)), hce, hO.vm, hcl, hWs, hall, hf⟩⟩
  refine st1 _ ?_
  show Steps p.tables e below (T1.setTop { method := m, pc := pc + 3, locals := ls, stack := .ref T.heap.size :: rest, locked := none }) _
  jvm_step X₁.here [X₁.here.top, hexec, d3', Value.category]
  exact X₁.ldcString hexec (own := own) (text := text) (index := is) (a := sa) hown' hstr'.1 hstr'.2
    (g := { method := m, pc := pc + 4, locals := ls, stack := .ref T.heap.size :: .ref T.heap.size :: rest, locked := none }) rfl d4' _ hsteps
/-- 'throw new E("text")', the text by a wide index -/
theorem vx_throwSW {cc : ByteArray} {pc : Nat} (hexec : p.tables.exec = Jvm.exec) (hb : c.code = cc) (hl : l.stackTraces = false) {own cls text : String} {names : List String} {ik is ic mc ms sa : Nat} {A : Nat → Prop}
    (hown : s.vm.findClass own = some m.cls) (hcls : Bundle.fit cls = true) (hnames : ∀ n ∈ names, Bundle.fit n = true)
    (hk : (Cond.classLink own ik cls).before args s = true) (hini : (Cond.initialized cls).before args s = true) (hstr : vk_R own is text sa s) (hat : ∀ w ∈ vx_atS own ic cls names, w.before args s = true)
    (hgood : ∀ w ∈ Cond.classLink own ik cls :: Cond.initialized cls :: vx_atS own ic cls names, vx_ot w = true)
    (hU : vx_Zq Bundle.tN "UNASSIGNED_STACK" Bundle.steD A s s.heap) (hN : vx_Zq Bundle.tN "SUPPRESSED_SENTINEL" Bundle.listD A s s.heap) (hS : va_S A s.heap H locs) (hsize : ls.size = c.maxLocals)
    (d0 : decode cc pc = .ok (.new ik, 3)) (d3 : decode cc (pc + 3) = .ok (.dup, 1)) (d4 : decode cc (pc + 4) = .ok (.ldc_w is, 3)) (d7 : decode cc (pc + 7) = .ok (.invokespecial ic, 3)) (d10 : decode cc (pc + 10) = .ok (.athrow, 1))
    (hout : ∀ x ∈ c.exceptionTable.toList, covers x (pc + 10) = false)
    (hRframes : names.length + 3 < R.frames) (hRlocals : (rest.map fun v => v.category).sum + (13 * (names.length + 1) + 43) ≤ R.locals) (hRcells : cells + 1 ≤ R.cells) (hRslots : slots + 6 ≤ R.slots) (hlocks : meth.locks = false)
    (hx : ∀ t : State, s.vm.Alike t.vm → H.size ≤ t.heap.size → (∀ q : Nat, q < H.size → t.heap[q]? = H[q]?) → XC cls s t)
    (hf : ∀ z ∈ locs, free z.base) (hc : cells + 1 ≤ mc) (hs : slots + 6 ≤ ms) :
    W p l e R s m args below meth c H locs cells slots (vx_MQ below Qc XC args s mc ms free) (F0 m pc ls rest) := by
  intro T hT X
  have htr : e.platform.stackTraces = false := (show e.platform.stackTraces = l.stackTraces by rw [X.admits.platform]).trans hl
  have Y := vx_rebase X (R' := { frames := R.frames, locals := R.locals, cells := 1, slots := 6 }) (Nat.le_refl _) (Nat.le_refl _) hRcells hRslots
  obtain ⟨s', hA⟩ : ∃ z, z = (T.setVm s.vm).setFrames (.invoking m args :: below) := ⟨_, rfl⟩
  rw [← hA] at Y
  have hvm : s'.vm = s.vm := by rw [hA]; rfl
  have hhp : s'.heap = H := by rw [hA]; exact hT
  have hW0 : s.WarmedH s'.vm := by rw [hvm]; exact State.WarmedH.refl s
  have hat' : ∀ w ∈ vx_atS own ic cls names, w.before args s' = true := fun w hw => vx_ot_at hW0 hvm.symm (hgood w (List.mem_cons_of_mem _ (List.mem_cons_of_mem _ hw))) (hat w hw)
  have hk' : (Cond.classLink own ik cls).before args s' = true := vx_ot_at hW0 hvm.symm (hgood _ List.mem_cons_self) hk
  have hini' : (Cond.initialized cls).before args s' = true := vx_ot_at hW0 hvm.symm (hgood _ (List.mem_cons_of_mem _ List.mem_cons_self)) hini
  have hU' : vx_Zq Bundle.tN "UNASSIGNED_STACK" Bundle.steD A s' s'.heap := by rw [hhp]; exact vx_Zq.moved hW0.alike (hU.kept hS.2.1)
  have hN' : vx_Zq Bundle.tN "SUPPRESSED_SENTINEL" Bundle.listD A s' s'.heap := by rw [hhp]; exact vx_Zq.moved hW0.alike (hN.kept hS.2.1)
  have h : ∀ w ∈ Bundle.ownAtoms own ic cls names, w.before args s' = true := vx_own hat' (vx_isRefq hU'.1) (vx_isRefq hN'.1) hU'.2.word hN'.2.word
  have hown' : s'.vm.findClass own = some m.cls := by rw [hvm]; exact hown
  have hins : (Cond.instantiable cls 6).before args s' = true := h _ (by simp [Bundle.ownAtoms])
  obtain ⟨vm₁, cX, kX, hfX, hkX, -, -, X₁, st1⟩ := Y.newCold hexec (own := own) (C := cls) (index := ik) (n := 6) hown' hk' hins hini'
    (g := F0 m pc ls rest) rfl (by rw [hb]; exact d0) (Nat.le_refl _) (Nat.le_refl _)
  generalize hT1 : (T.setVm vm₁).pushCell { cls := cX, slots := kX.instanceTypes.map defaultValue, vm := .none } = T1 at X₁ st1
  have hcat : (Value.ref T.heap.size).category = 1 := rfl
  have hcellA : T1.heap[T.heap.size]? = some (freshCell cX kX) := by rw [← hT1]; exact State.heap_pushCell_size _ _
  have d3' : decode c.code (pc + 3) = .ok (.dup, 1) := by rw [hb]; exact d3
  have d4' : decode c.code (pc + 4) = .ok (.ldc_w is, 3) := by rw [hb]; exact d4
  have hstr' : vk_R own is text sa s' := vk_R.warm hW0 hstr
  obtain ⟨U, hsteps, hrun, hend, hW, hsame, ce, hce, hO⟩ := X₁.ctorThrowS hexec htr (own := own) (cls := cls) (names := names) (ic := ic) hown' hcls hnames h (fun x hx => nomatch hx) hfX hkX hcellA (by rw [hhp, hT]; exact Nat.le_refl _) (msg := .ref sa) rfl
    (g := { method := m, pc := pc + 7, locals := ls, stack := .ref sa :: .ref T.heap.size :: .ref T.heap.size :: rest, locked := none }) rfl hsize rfl rfl (rest := rest) rfl
    (by rw [hb]; exact d7) (by rw [hb]; exact d10) hout hRframes (by simp only [List.map_cons, List.sum_cons, hcat]; omega) hlocks
  obtain ⟨f1, f2⟩ := vx_frame hsame
  rw [hhp] at f1 f2
  have hWs : s.WarmedH U.vm := State.WarmedH.trans hW0 hW
  have hcl : s.vm.findClass cls = some ce.cls := by
    have h9 := hO.cls
    rw [hvm] at h9
    exact h9
  have hall : s.sameButNew ({ U with vm := s.vm } : State) locs mc ms := by
    subst hA
    obtain ⟨e1, e2⟩ := hsame
    rw [State.setFrames_setFrames] at e1
    have h2 : (T.setVm s.vm).sameButNew ({ U with vm := s.vm } : State) [] (0 + 1) (0 + 6) := ⟨e1, e2⟩
    have h3 := X.same.trans h2
    rw [List.append_nil] at h3
    exact h3.mono hc hs
  refine ⟨U, ?_, .threw T.heap.size, hrun, hend, Or.inr ⟨T.heap.size, rfl, cls, ce, locs, hx U hWs.alike f1 (fun q hq => f2 q hq (fun z hz => nomatch hz)), hce, hO.vm, hcl, hWs, hall, hf⟩⟩
  refine st1 _ ?_
  show Steps p.tables e below (T1.setTop { method := m, pc := pc + 3, locals := ls, stack := .ref T.heap.size :: rest, locked := none }) _
  jvm_step X₁.here [X₁.here.top, hexec, d3', Value.category]
  exact X₁.ldcStringW hexec (own := own) (text := text) (index := is) (a := sa) hown' hstr'.1 hstr'.2
    (g := { method := m, pc := pc + 4, locals := ls, stack := .ref T.heap.size :: .ref T.heap.size :: rest, locked := none }) rfl d4' _ hsteps
end Ends
section Bodies
variable {l : Launch}
theorem vx_ofW {y : MethodName} {ws ws' : List Cond} {rm : Room} {Pc : Array Value → State → Prop} {Qc : Array Value → State → Outcome → State → Prop} {XC : String → State → State → Prop} {mc ms : Nat} {free : Addr → Prop} {cc : ByteArray} {maxL : Nat} {ret : Option FieldType}
    (hy : plainName y.cls = true) (hw : ws = Cond.code y cc maxL ret :: ws')
    (body : ∀ p e s m args below meth c s₁, BodyLoose p l y (headSpec ws rm) cc maxL ret e s m args below meth c s₁ → c.maxLocals = maxL → (∀ x ∈ c.exceptionTable.toList, False) → Pc args s →
      W p l e (headSpec ws rm).room s m args below meth c s.heap [] 0 0 (vx_MQ below Qc XC args s mc ms free) (entryFrame m args maxL)) : vx_Met l y ws rm Pc Qc XC mc ms free := by
  refine MetFree.of_bodyS (code := cc) (maxLocals := maxL) (ret := ret) hy ?_ ?_
  · intro args s m h hn
    obtain ⟨meth, c, h1, h2, h3, h4, h5, h6, -, -⟩ := Cond.code_spec hn (atoms_spec (ws := ws) h _ (by rw [hw]; exact List.mem_cons_self))
    exact ⟨meth, c, h1, h2, h3, h4, h5, h6⟩
  · intro p e s m args below meth c s₁ B hml hP _
    have hh0 : s₁.heap = s.heap := by rw [B.state]; rfl
    have ht : ∀ x ∈ c.exceptionTable.toList, False := by
      obtain ⟨meth9, c9, h1, h2, -, -, -, -, h7, -⟩ := Cond.code_spec B.named (atoms_spec (ws := ws) B.pre _ (by rw [hw]; exact List.mem_cons_self))
      cases Option.some.inj (h1.symm.trans B.method)
      cases Option.some.inj (h2.symm.trans (Stand.of_body B).code)
      intro x hx
      rw [Array.isEmpty_iff.mp h7] at hx
      cases hx
    obtain ⟨t, a1, o, b1, b2, b3⟩ := body p e s m args below meth c s₁ B hml ht hP s₁ hh0 (Stand.of_body B)
    exact ⟨t, o, a1, b1, b2, b3⟩
/-- the table of a body with handlers -/
theorem vx_table {p : Program} {x y : MethodName} {S : Spec} {cc bytes : ByteArray} {maxL maxL' : Nat} {ret ret' : Option FieldType} {e : Env} {s s₁ : State} {m : MethodId} {args : Array Value} {below : List Frame} {meth : Method} {c : Code} {hh : List (Nat × Nat × Nat × Nat)}
    (B : BodyLoose p l y S cc maxL ret e s m args below meth c s₁) (h : (Cond.codeWith y bytes maxL' ret' hh).before args s = true) : c.exceptionTable.toList = tableOf hh := by
  obtain ⟨m9, meth9, c9, hn9, h1, h2, -, -, h6, -⟩ := Cond.codeWith_spec h
  cases Option.some.inj (hn9.symm.trans B.named)
  cases Option.some.inj (h1.symm.trans B.method)
  cases Option.some.inj (h2.symm.trans (Stand.of_body B).code)
  rw [← h6, table_eq]
end Bodies
end VXA
/-! ===== END ===== -/
/-! ===== BEGIN a static call of a method with an exception table ===== -/
section VXS
variable {p : Program} {l : Launch} {e : Env} {R : Room} {s : State} {m : MethodId} {args : Array Value} {below : List Frame} {meth : Method} {c : Code} {T : State} {H : Heap} {locs : List Loc} {cells slots : Nat}
abbrev vx_CSW (R : Room) (s : State) (args : Array Value) (own : String) (index : Nat) (y : MethodName) (bytes : ByteArray) (maxL : Nat) (ret : Option FieldType) (hh : List (Nat × Nat × Nat × Nat)) (ws : List Cond) (rm : Room) (mc ms n : Nat) : Prop :=
  (rm.cells = mc ∧ rm.slots = ms ∧ rm.frames + 1 ≤ R.frames ∧ 8 + (maxL + 11) + rm.locals ≤ R.locals ∧ (∀ w ∈ ws, ∀ (a' : Array Value) (U : State), s.WarmedH U.vm → w.before a' U = true) ∧ Cond.codeWith y bytes maxL ret hh ∈ ws) ∧
  (Cond.codeWith y bytes maxL ret hh).before args s = true ∧ (Cond.initialized y.cls).before args s = true ∧ (y.cls ≠ "java/lang/invoke/MethodHandle" ∧ y.cls ≠ "java/lang/invoke/VarHandle") ∧
  (∀ sig, parseMethodDescriptor y.desc = some sig → n = sig.parameters.length) ∧ (Cond.methodLink own index y).before args s = true ∧ (Cond.static y).before args s = true
theorem vx_cwSW {own : String} {index maxL mc ms : Nat} {y : MethodName} {bytes : ByteArray} {ret : Option FieldType} {hh : List (Nat × Nat × Nat × Nat)} {Ts ws ws' : List Cond} {rm : Room} (n : Nat) (ht : ∀ w ∈ Ts, w.before args s = true) (hT : GoodIn Ts (va_wsS own index y ws)) (hw : ws = Cond.codeWith y bytes maxL ret hh :: ws') (hrc : rm.cells = mc) (hrs : rm.slots = ms)
    (hd : y.cls ≠ "java/lang/invoke/MethodHandle" ∧ y.cls ≠ "java/lang/invoke/VarHandle" ∧ (parseMethodDescriptor y.desc).map (fun d => d.parameters.length) = some n) (hR : rm.frames + 1 ≤ R.frames ∧ 8 + (maxL + 11) + rm.locals ≤ R.locals) :
    vx_CSW R s args own index y bytes maxL ret hh ws rm mc ms n := by
  have ok : ∀ w ∈ va_wsS own index y ws, w.before args s = true := fun w h => ht w (hT w h).1
  have hG : GoodIn Ts ws := fun w h => hT w (by unfold va_wsS; exact List.mem_append_right _ h)
  have hc : Cond.codeWith y bytes maxL ret hh ∈ ws := by rw [hw]; exact List.mem_cons_self
  refine ⟨⟨hrc, hrs, hR.1, hR.2, pay_in ht hG, hc⟩, ht _ (hG _ hc).1, ok _ (by simp [va_wsS]), ⟨hd.1, hd.2.1⟩, fun sig h => ?_, ok _ (by simp [va_wsS]), ok _ (by simp [va_wsS])⟩
  have h2 := hd.2.2
  rw [h] at h2
  exact (Option.some.inj h2).symm
theorem vx_callSW (X : Stand p l e R s m args below meth c T locs cells slots) (hexec : p.tables.exec = Jvm.exec) {own : String} {index : Nat} {y : MethodName} {bytes : ByteArray} {maxL : Nat} {ret : Option FieldType} {hh : List (Nat × Nat × Nat × Nat)}
    (hown : s.vm.findClass own = some m.cls) (hlink : (Cond.methodLink own index y).before args s = true) (hstat : (Cond.static y).before args s = true) (hinit : (Cond.initialized y.cls).before args s = true)
    (hcode : (Cond.codeWith y bytes maxL ret hh).before args s = true) (hy : y.cls ≠ "java/lang/invoke/MethodHandle" ∧ y.cls ≠ "java/lang/invoke/VarHandle")
    {W9 : Nat} {Pre : Pt → Array Value → Prop} {Post : Pt → Array Value → Option Value → Pt → Prop} (hK : Back l R p e below s args y 3 W9 Pre Post)
    {g : JFrame} (hg : g.method = m) (hsize : g.locals.size = c.maxLocals) {argsL rest : List Value} (hlen : ∀ sig, parseMethodDescriptor y.desc = some sig → argsL.length = sig.parameters.length)
    (hstack : g.stack = argsL.reverse ++ rest) (hW : 2 * g.monitorRoom + (rest.map fun v => v.category).sum ≤ W9) (hdg : decode c.code g.pc = .ok (.invokestatic index, 3))
    (hpre : ∀ vm₁, s.WarmedH vm₁ → Pre ⟨T.setVm vm₁, locs, cells, slots⟩ argsL.toArray) :
    ∃ (v : Option Value) (vm₁ : Vm) (B : Pt), s.WarmedH vm₁ ∧ Stand p l e R s m args below meth c B.U B.locs B.cells B.slots ∧ Post ⟨T.setVm vm₁, locs, cells, slots⟩ argsL.toArray v B ∧
      ∀ target, Steps p.tables e below (B.U.setTop { g with pc := g.pc + 3, stack := v.toList ++ rest }) target → Steps p.tables e below (T.setTop g) target := by
  obtain ⟨mk, methM, cM, hnamed, hmethM, -, -, -, -, -, -, hsigM⟩ := Cond.codeWith_spec hcode
  have hstatic : methM.isStatic = true := Cond.static_spec hnamed hmethM hstat
  obtain ⟨kP, hkP, -⟩ := className_of_methodNamed hnamed
  have hinitP : kP.init = .initialized := Cond.initialized_spec (findClass_of_methodNamed hnamed) hkP hinit
  obtain ⟨vm₁, X₁, hstep₁⟩ := X.invokestatic hexec hown hlink hnamed hmethM hstatic hkP hinitP hy (g := g) hg (argsL := argsL) (rest := rest) (hlen _ hsigM) hstack hdg
  obtain ⟨v, B, X', hpost, hsteps⟩ := hK m meth c ⟨T.setVm vm₁, locs, cells, slots⟩ { g with stack := rest } (.invokestatic index) mk argsL.toArray X₁ hg hsize hdg hW (X₁.named hnamed) (hpre vm₁ X₁.warmed)
  exact ⟨v, vm₁, B, X₁.warmed, X', hpost, fun target h => hstep₁ _ fun acts => by rw [doInvoke_state]; exact hsteps.trans h⟩
theorem vx_runSW {y : MethodName} {bytes cc : ByteArray} {maxL nL mc ms n index : Nat} {ret : Option FieldType} {hh : List (Nat × Nat × Nat × Nat)} {ws : List Cond} {rm : Room} {Pc : Array Value → State → Prop} {Qc : Array Value → State → Outcome → State → Prop} {free : Addr → Prop} {Ts : List Cond} {own : String} {As rest : List Value} {g : JFrame}
    (S : CallFix p m c cc nL s args Ts own) (hM : Met l y ws rm Pc Qc mc ms free) (cw : vx_CSW R s args own index y bytes maxL ret hh ws rm mc ms n) (hp : PreS s H Pc As)
    (hg : g.method = m) (hn : As.length = n) (hsize : g.locals.size = nL) (hstack : g.stack = As.reverse ++ rest) (hW : 2 * g.monitorRoom + (rest.map fun v => v.category).sum ≤ 8) (hdg : decode cc g.pc = .ok (.invokestatic index, 3)) (hf : cells + mc ≤ R.cells ∧ slots + ms ≤ R.slots) :
    va_Run p l e R s m args below meth c H locs cells slots mc ms g rest (Qc As.toArray) (free) := by
  obtain ⟨⟨hrc, hrs, hfr, hlo, hws, hcw⟩, hcode, hini, hy, hlen, hl, hstt⟩ := cw
  have hK : Back l R p e below s args y 3 8 (PreOf R mc ms Pc) (PostOf Qc mc ms free) := va_backW (hh := hh) (bytes := bytes) (maxL := maxL) (ret := ret) hM hp.1 hrc hrs hfr hlo hws hcw (fun a' U hW => word_at hW (Or.inl (by first | rfl | simp [Cond.onTables, Cond.keeps, Cond.steady])) hini)
  obtain ⟨hx, hb, hml, ho, -⟩ := S
  intro T hT X
  obtain ⟨v, vm₁, ⟨U', l2, c2, s2⟩, hW₁, X', ⟨g', mk, t, L, e1, e2, hq, h1, hL, h2, h3⟩, st⟩ := vx_callSW X hx (hh := hh) (bytes := bytes) (maxL := maxL) (ret := ret) ho hl hstt hini hcode hy hK hg (hsize.trans hml.symm) (argsL := As) (rest := rest) (fun sig h => hn.trans (hlen sig h)) hstack hW (by rw [hb]; exact hdg)
    (fun vm₁ hW₁ => ⟨hf.1, hf.2, hp.2 (T.setVm vm₁) hT hW₁⟩)
  dsimp only [Pt.U, Pt.locs, Pt.cells, Pt.slots] at X' e1 e2 h1 h2 h3 st
  subst h1; subst h2; subst h3
  exact ⟨v, (T.setVm vm₁).calling g' mk As.toArray, t, U', L, hT, X', hL, e1, e2, hq, st⟩
/-- not caught here, past rows that name other classes: it goes on to the caller -/
theorem vx_outP {p : Program} {l : Launch} {e : Env} {R : Room} {s : State} {m : MethodId} {args : Array Value} {below : List Frame} {meth : Method} {c : Code} {H : Heap} {locs : List Loc} {cells slots : Nat} {free : Addr → Prop} {ls : Array Slot} {rest : List Value} {Qc : Array Value → State → Outcome → State → Prop} {XC : String → State → State → Prop}
    {pc : Nat} {own E : String} {ce : Cell} {q : Addr} {mc ms : Nat} (hown : s.vm.findClass own = some m.cls) (hlocks : meth.locks = false)
    (hpass : ∀ z ∈ c.exceptionTable.toList, covers z pc = false ∨ (z.catchType ≠ 0 ∧ ∃ nm : String, (Cond.classLink own z.catchType nm).before args s = true ∧ va_Nc E nm s)) (hcell : H[q]? = some ce) (hv : ce.vm = .none) (hcl : s.vm.findClass E = some ce.cls)
    (hx : ∀ t : State, t.heap = H → s.vm.Alike t.vm → XC E s t) (hf : ∀ z ∈ locs, free z.base) (hc : cells ≤ mc) (hs : slots ≤ ms) :
    vx_W p l e R s m args below meth c H locs cells slots (vx_MQ below Qc XC args s mc ms free) (F0 m pc ls rest) q := by
  intro T hT X
  have hpl : e.platform.magicAccessors = ({} : Platform).magicAccessors := by rw [X.admits.platform]
  obtain ⟨vm', hW', X', st⟩ := X.outThrough hlocks q (g := F0 m pc ls rest) rfl rfl rfl (cell := ce) (by rw [hT]; exact hcell) (by rw [hv]; rfl)
    (by obtain ⟨k9, h9, -⟩ := Vm.findClass_spec hcl; exact ⟨k9, h9⟩) (fun z hz => by
      rcases hpass z hz with h | ⟨hz0, nm, hl1, hn1⟩
      · exact Or.inl h
      · obtain ⟨c6, hc6, hcl6⟩ := Cond.classLink_spec hown hl1 e.platform hpl
        obtain ⟨a8, b8, h1, h2, h3⟩ := hn1
        cases Option.some.inj (h1.symm.trans hcl)
        cases Option.some.inj (h2.symm.trans hc6)
        exact Or.inr ⟨hz0, _, hcl6, h3⟩)
  obtain ⟨g₀, hfr⟩ := X'.frames_eq
  have hcell9 : ((T.setVm vm').setFrames (.throwing q :: below)).heap[q]? = some ce := by
    show T.heap[q]? = some ce
    rw [hT]; exact hcell
  have hend : Ended ((T.setVm vm').setFrames (.throwing q :: below)) below (.threw q) := State.frames_setFrames _ (State.cur_lt_of_frames hfr)
  refine ⟨(T.setVm vm').setFrames (.throwing q :: below), ?_, .threw q, X'.here.running, hend, Or.inr ⟨q, rfl, E, ce, locs, hx _ hT (X'.ends _).1.alike, hcell9, hv, hcl, (X'.ends _).1, (X'.ends _).2.mono hc hs, hf⟩⟩
  rw [X.pushThrowing_eq]
  exact st
/-- a thing of a world lies in the heap -/
theorem vx_lt {D : va_G} {cl : List vw_C} {ws : va_W} {H1 : Heap} (h : va_P D cl ws H1) {k : Nat} {q : Nat × va_E} (hk : ws[k]? = some q) : q.1 < H1.size := (h k q hk).lt
end VXS
/-! ===== END ===== -/
/-! ===== BEGIN methods with a table of their own: called by a name, returning or throwing ===== -/
section VXH
/-! vx_backW, vx_callVX, vx_callSX, vx_callVW, vx_runVW, vx_runVX, vx_runSX, vx_ofWH follow the same proofs as their sisters above (Free/Laws.lean, Shelf42/LK1.lean); vx_outP calls Shelf42/NT130.lean (outThrough). -/
section
variable {l : Launch} {R : Room} {p : Program} {e : Env} {below : List Frame} {s : State} {sargs : Array Value} {y : MethodName} {len W9 : Nat}
theorem vx_backW {ws : List Cond} {rm : Room} {Pc : Array Value → State → Prop} {Qc : Array Value → State → Outcome → State → Prop} {XC : String → State → State → Prop} {mc ms : Nat} {free : Addr → Prop} {bytes : ByteArray} {maxL : Nat} {ret : Option FieldType} {hh : List (Nat × Nat × Nat × Nat)}
    (hM : vx_Met l y ws rm Pc Qc XC mc ms free) (hblind : FrameBlind Pc) (hrc : rm.cells = mc) (hrs : rm.slots = ms)
    (hframes : rm.frames + 1 ≤ R.frames) (hlocals : W9 + (maxL + 11) + rm.locals ≤ R.locals)
    (hws : ∀ w ∈ ws, ∀ a' U, s.WarmedH U.vm → w.before a' U = true) (hcode : Cond.codeWith y bytes maxL ret hh ∈ ws) (hinit : ∀ a' U, s.WarmedH U.vm → (Cond.initialized y.cls).before a' U = true) :
    vx_Back l R p e below s sargs y len W9 (PreOf R mc ms Pc) (PostOf Qc mc ms free) (vx_Post XC mc ms free) := by
  intro m meth c A g ig mk a X hg hsize hdg hW hn hp
  have h1 : (headSpec ws rm).pre.before a A.U = true := atoms_intro fun w hw => hws w hw _ _ X.warmed
  have h2 : (Cond.codeWith y bytes maxL ret hh).before a A.U = true := hws _ hcode _ _ X.warmed
  have h3 : (Cond.initialized y.cls).before a A.U = true := hinit _ _ X.warmed
  have h4 : A.cells + (headSpec ws rm).room.cells ≤ R.cells := by rw [show (headSpec ws rm).room.cells = mc from hrc]; exact hp.1
  have h5 : A.slots + (headSpec ws rm).room.slots ≤ R.slots := by rw [show (headSpec ws rm).room.slots = ms from hrs]; exact hp.2.1
  have hPc : Pc a (A.U.calling g mk a) := hblind _ _ _ _ hp.2.2
  obtain ⟨U, Ls, c0, s0⟩ := A
  dsimp only [Pt.U, Pt.locs, Pt.cells, Pt.slots] at h1 h2 h3 h4 h5 X hn hPc ⊢
  obtain ⟨m9, methY, cY, hn9, hmY, hcY, -, hlY, -⟩ := Cond.codeWith_spec h2
  cases Option.some.inj (hn9.symm.trans hn)
  obtain ⟨kY, hkY, -⟩ := className_of_methodNamed hn
  have hinitY : kY.init = .initialized := Cond.initialized_spec (findClass_of_methodNamed hn) hkY h3
  have h : At U g.method c below := by rw [hg]; exact X.here
  have hlocals9 : W9 + (maxL + 11) + (headSpec ws rm).room.locals ≤ R.locals := hlocals
  have happ : (headSpec ws rm).appliesLoose y e.platform (U.calling g mk a) = true :=
    Spec.appliesLoose_calling (g := g) h hdg hn hkY hinitY
      (X.room_calling (g := g) (R' := (headSpec ws rm).room) hsize hmY hcY hframes (by rw [hlY]; omega) h4 h5) h1
  obtain ⟨mid, hmid⟩ := h.above
  have hfr : (U.setTop g).frames = (.java g :: mid) ++ below := by rw [State.frames_setTop' g h.top, hmid]; rfl
  obtain ⟨o, s₂, hsteps, -, hend, hq⟩ := Steps.callFree hM p X.admits X.cas X.clock (acts := []) hfr happ hPc trivial
  have hq' : vx_Q Qc XC mc ms free a (U.calling g mk a) o s₂ := hq
  rw [State.frames_setTop' g h.top] at hend
  obtain ⟨g₀, hg0⟩ := Option.isSome_iff_exists.mp h.top
  obtain ⟨r, hr⟩ := State.topJava?_eq_some.mp hg0
  have hr' : (({ U with heap := s₂.heap, slotsUsed := s₂.slotsUsed } : State).setVm s₂.vm).frames = .java g₀ :: r := hr
  rcases hq' with ⟨hqc, L, hfe, hL⟩ | ⟨q, rfl, E, ce, L, hx, hce, hcv, hcl, hW₂, hsm, hL⟩
  · obtain ⟨⟨v, rfl⟩, hW₂, e2, q2, q3, q4, q5, q6⟩ := id hfe
    have e3 : s₂ = ({ (U.calling g mk a).setFrames s₂.frames with heap := s₂.heap, slotsUsed := s₂.slotsUsed } : State).setVm s₂.vm := by
      have : s₂ = ({ s₂ with vm := (U.calling g mk a).vm } : State).setVm s₂.vm := rfl
      rw [e2] at this
      exact this
    obtain ⟨c₂, i₂, len₂, hc₂, hd₂, hf₂⟩ := hend
    have hW' : U.WarmedH s₂.vm := hW₂
    have hcc : c₂ = c := by
      have h1 : s₂.code? g.method = U.code? g.method := by
        rw [State.code?_eq, State.code?_eq, hW'.alike.method?]
      exact Option.some.inj (hc₂.symm.trans (h1.trans h.code))
    subst hcc
    have hlen : len₂ = len := by rw [hdg] at hd₂; cases hd₂; rfl
    subst hlen
    have hs₂ : s₂ = (({ U with heap := s₂.heap, slotsUsed := s₂.slotsUsed } : State).setVm s₂.vm).setTop { g with pc := g.pc + len₂, stack := v.toList ++ g.stack } := by
      refine e3.trans ?_
      rw [hf₂, State.calling_eq h.top, State.setFrames_setFrames, State.setTop_of_frames _ hr', hr]
      rfl
    have hsame : U.sameButNew ({ U with heap := s₂.heap, slotsUsed := s₂.slotsUsed } : State) L mc ms := by
      refine ⟨?_, q2, q3, q4, q5, q6⟩
      obtain ⟨t, ht, -⟩ := State.frames_cons hr
      show ({ U with heap := s₂.heap, slotsUsed := s₂.slotsUsed } : State) = { U.setFrames U.frames with heap := s₂.heap, slotsUsed := s₂.slotsUsed }
      rw [State.setFrames_self ht]
    subst hg
    refine Or.inl ⟨v, ⟨(({ U with heap := s₂.heap, slotsUsed := s₂.slotsUsed } : State).setVm s₂.vm), Ls ++ L, c0 + mc, s0 + ms⟩,
      ⟨X.admits, X.cas, X.clock, X.frames, X.room, X.hears, X.method, X.code, (X.here.setHeapUsed s₂.heap s₂.slotsUsed).setVm hW'.alike, X.tail, State.WarmedH.trans X.warmed hW', X.limits, X.bytes, X.same.trans (hsame.setVm s.vm)⟩,
      ⟨g, mk, s₂, L, rfl, rfl, hqc, rfl, hL, rfl, rfl⟩, ?_⟩
    show Steps p.tables e below _ ((({ U with heap := s₂.heap, slotsUsed := s₂.slotsUsed } : State).setVm s₂.vm).setTop { g with pc := g.pc + len₂, stack := v.toList ++ g.stack })
    rw [← hs₂]
    exact hsteps
  · obtain ⟨e2, q2, q3, q4, q5, q6⟩ := id hsm
    have e3 : s₂ = ({ (U.calling g mk a).setFrames s₂.frames with heap := s₂.heap, slotsUsed := s₂.slotsUsed } : State).setVm s₂.vm := by
      have : s₂ = ({ s₂ with vm := (U.calling g mk a).vm } : State).setVm s₂.vm := rfl
      rw [e2] at this
      exact this
    have hf₂ : s₂.frames = .throwing q :: .java g :: U.frames.tail := hend
    have hW' : U.WarmedH s₂.vm := hW₂
    have hs₂ : s₂ = ((({ U with heap := s₂.heap, slotsUsed := s₂.slotsUsed } : State).setVm s₂.vm).setTop g).pushFrame (.throwing q) := by
      refine e3.trans ?_
      rw [hf₂, State.calling_eq h.top, State.setFrames_setFrames, State.pushFrame, State.frames_setTop _ hr', State.setTop_of_frames _ hr', State.setFrames_setFrames, hr]
      rfl
    have hsame : U.sameButNew ({ U with heap := s₂.heap, slotsUsed := s₂.slotsUsed } : State) L mc ms := by
      refine ⟨?_, q2, q3, q4, q5, q6⟩
      obtain ⟨t, ht, -⟩ := State.frames_cons hr
      show ({ U with heap := s₂.heap, slotsUsed := s₂.slotsUsed } : State) = { U.setFrames U.frames with heap := s₂.heap, slotsUsed := s₂.slotsUsed }
      rw [State.setFrames_self ht]
    subst hg
    refine Or.inr ⟨q, ⟨(({ U with heap := s₂.heap, slotsUsed := s₂.slotsUsed } : State).setVm s₂.vm), Ls ++ L, c0 + mc, s0 + ms⟩,
      ⟨X.admits, X.cas, X.clock, X.frames, X.room, X.hears, X.method, X.code, (X.here.setHeapUsed s₂.heap s₂.slotsUsed).setVm hW'.alike, X.tail, State.WarmedH.trans X.warmed hW', X.limits, X.bytes, X.same.trans (hsame.setVm s.vm)⟩,
      ⟨g, mk, s₂, L, E, ce, rfl, rfl, hx, hce, hcv, hcl, rfl, hL, rfl, rfl⟩, ?_⟩
    show Steps p.tables e below _ (((({ U with heap := s₂.heap, slotsUsed := s₂.slotsUsed } : State).setVm s₂.vm).setTop g).pushFrame (.throwing q))
    rw [← hs₂]
    exact hsteps
end
variable {p : Program} {l : Launch} {e : Env} {R : Room} {s : State} {m : MethodId} {args : Array Value} {below : List Frame} {meth : Method} {c : Code} {T : State} {H : Heap} {locs : List Loc} {cells slots : Nat}
theorem vx_callVX (X : Stand p l e R s m args below meth c T locs cells slots) (hexec : p.tables.exec = Jvm.exec) {own C : String} {index : Nat} {y : MethodName} {bytes : ByteArray} {maxL : Nat} {ret : Option FieldType} {hh : List (Nat × Nat × Nat × Nat)}
    (hown : s.vm.findClass own = some m.cls) (hlink : (Cond.methodLink own index y).before args s = true) (hinst : (Cond.instanceMethod y).before args s = true) (hsel : (Cond.selects C y y).before args s = true)
    (hcode : (Cond.codeWith y bytes maxL ret hh).before args s = true) (hy : y.cls ≠ "java/lang/invoke/MethodHandle" ∧ y.cls ≠ "java/lang/invoke/VarHandle")
    {W9 : Nat} {Pre : Pt → Array Value → Prop} {Post : Pt → Array Value → Option Value → Pt → Prop} {PostX : Pt → Array Value → Addr → Pt → Prop} (hK : vx_Back l R p e below s args y 3 W9 Pre Post PostX)
    {b : Addr} {cellB : Cell} (hcell : T.heap[b]? = some cellB) (hobj : cellB.vm.isStatics = false) (hcls : s.vm.findClass C = some cellB.cls)
    {g : JFrame} (hg : g.method = m) (hsize : g.locals.size = c.maxLocals) {argsL rest : List Value} (hlen : ∀ sig, parseMethodDescriptor y.desc = some sig → argsL.length = sig.parameters.length)
    (hstack : g.stack = argsL.reverse ++ .ref b :: rest) (hW : 2 * g.monitorRoom + (rest.map fun v => v.category).sum ≤ W9) (hdg : decode c.code g.pc = .ok (.invokevirtual index, 3))
    (hpre : ∀ vm₁, s.WarmedH vm₁ → Pre ⟨T.setVm vm₁, locs, cells, slots⟩ (Value.ref b :: argsL).toArray) :
    (∃ (v : Option Value) (vm₁ : Vm) (B : Pt), s.WarmedH vm₁ ∧ Stand p l e R s m args below meth c B.U B.locs B.cells B.slots ∧ Post ⟨T.setVm vm₁, locs, cells, slots⟩ (Value.ref b :: argsL).toArray v B ∧
      ∀ target, Steps p.tables e below (B.U.setTop { g with pc := g.pc + 3, stack := v.toList ++ rest }) target → Steps p.tables e below (T.setTop g) target) ∨
    (∃ (q : Addr) (vm₁ : Vm) (B : Pt), s.WarmedH vm₁ ∧ Stand p l e R s m args below meth c B.U B.locs B.cells B.slots ∧ PostX ⟨T.setVm vm₁, locs, cells, slots⟩ (Value.ref b :: argsL).toArray q B ∧
      Steps p.tables e below (T.setTop g) ((B.U.setTop { g with stack := rest }).pushFrame (.throwing q))) := by
  obtain ⟨mk, methM, hnamed, hmethM, hstM, habM⟩ := Cond.instanceMethod_spec hinst
  obtain ⟨m8, methM', cM, hn8, hmethM', -, -, -, -, -, -, hsigM⟩ := Cond.codeWith_spec hcode
  cases Option.some.inj (hn8.symm.trans hnamed)
  cases hmethM.symm.trans hmethM'
  obtain ⟨c2, r2, m2, q1, q2, q3, q4, kP, hkP, hkPi⟩ := Cond.selects_spec hsel
  cases hcls.symm.trans q1
  cases (State.methodFound?_of_named hnamed hy).symm.trans q2
  cases hnamed.symm.trans q3
  have hselP : selectMethod e.platform s.vm cellB.cls mk = .method mk := by rw [Launch.admits_selectMethod X.admits]; exact q4
  obtain ⟨vm₁, X₁, hstep₁⟩ := X.invokevirtual hexec hown hlink hnamed hmethM hstM hkP hkPi hy (a := b) (cell := cellB) hcell
    (fun z h => by rw [h] at hobj; cases hobj) hselP hmethM habM hkP hkPi (g := g) hg (argsL := argsL) (rest := rest) (hlen _ hsigM) hstack hdg
  rcases hK m meth c ⟨T.setVm vm₁, locs, cells, slots⟩ { g with stack := rest } (.invokevirtual index) mk (Value.ref b :: argsL).toArray X₁ hg hsize hdg hW (X₁.named hnamed) (hpre vm₁ X₁.warmed) with ⟨v, B, X', hpost, hsteps⟩ | ⟨q, B, X', hpost, hsteps⟩
  · exact Or.inl ⟨v, vm₁, B, X₁.warmed, X', hpost, fun target h => hstep₁ _ fun acts => by rw [doInvoke_state]; exact hsteps.trans h⟩
  · exact Or.inr ⟨q, vm₁, B, X₁.warmed, X', hpost, hstep₁ _ fun acts => by rw [doInvoke_state]; exact hsteps⟩
theorem vx_callSX (X : Stand p l e R s m args below meth c T locs cells slots) (hexec : p.tables.exec = Jvm.exec) {own : String} {index : Nat} {y : MethodName} {bytes : ByteArray} {maxL : Nat} {ret : Option FieldType} {hh : List (Nat × Nat × Nat × Nat)}
    (hown : s.vm.findClass own = some m.cls) (hlink : (Cond.methodLink own index y).before args s = true) (hstat : (Cond.static y).before args s = true) (hinit : (Cond.initialized y.cls).before args s = true)
    (hcode : (Cond.codeWith y bytes maxL ret hh).before args s = true) (hy : y.cls ≠ "java/lang/invoke/MethodHandle" ∧ y.cls ≠ "java/lang/invoke/VarHandle")
    {W9 : Nat} {Pre : Pt → Array Value → Prop} {Post : Pt → Array Value → Option Value → Pt → Prop} {PostX : Pt → Array Value → Addr → Pt → Prop} (hK : vx_Back l R p e below s args y 3 W9 Pre Post PostX)
    {g : JFrame} (hg : g.method = m) (hsize : g.locals.size = c.maxLocals) {argsL rest : List Value} (hlen : ∀ sig, parseMethodDescriptor y.desc = some sig → argsL.length = sig.parameters.length)
    (hstack : g.stack = argsL.reverse ++ rest) (hW : 2 * g.monitorRoom + (rest.map fun v => v.category).sum ≤ W9) (hdg : decode c.code g.pc = .ok (.invokestatic index, 3))
    (hpre : ∀ vm₁, s.WarmedH vm₁ → Pre ⟨T.setVm vm₁, locs, cells, slots⟩ argsL.toArray) :
    (∃ (v : Option Value) (vm₁ : Vm) (B : Pt), s.WarmedH vm₁ ∧ Stand p l e R s m args below meth c B.U B.locs B.cells B.slots ∧ Post ⟨T.setVm vm₁, locs, cells, slots⟩ argsL.toArray v B ∧
      ∀ target, Steps p.tables e below (B.U.setTop { g with pc := g.pc + 3, stack := v.toList ++ rest }) target → Steps p.tables e below (T.setTop g) target) ∨
    (∃ (q : Addr) (vm₁ : Vm) (B : Pt), s.WarmedH vm₁ ∧ Stand p l e R s m args below meth c B.U B.locs B.cells B.slots ∧ PostX ⟨T.setVm vm₁, locs, cells, slots⟩ argsL.toArray q B ∧
      Steps p.tables e below (T.setTop g) ((B.U.setTop { g with stack := rest }).pushFrame (.throwing q))) := by
  obtain ⟨mk, methM, cM, hnamed, hmethM, -, -, -, -, -, -, hsigM⟩ := Cond.codeWith_spec hcode
  have hstatic : methM.isStatic = true := Cond.static_spec hnamed hmethM hstat
  obtain ⟨kP, hkP, -⟩ := className_of_methodNamed hnamed
  have hinitP : kP.init = .initialized := Cond.initialized_spec (findClass_of_methodNamed hnamed) hkP hinit
  obtain ⟨vm₁, X₁, hstep₁⟩ := X.invokestatic hexec hown hlink hnamed hmethM hstatic hkP hinitP hy (g := g) hg (argsL := argsL) (rest := rest) (hlen _ hsigM) hstack hdg
  rcases hK m meth c ⟨T.setVm vm₁, locs, cells, slots⟩ { g with stack := rest } (.invokestatic index) mk argsL.toArray X₁ hg hsize hdg hW (X₁.named hnamed) (hpre vm₁ X₁.warmed) with ⟨v, B, X', hpost, hsteps⟩ | ⟨q, B, X', hpost, hsteps⟩
  · exact Or.inl ⟨v, vm₁, B, X₁.warmed, X', hpost, fun target h => hstep₁ _ fun acts => by rw [doInvoke_state]; exact hsteps.trans h⟩
  · exact Or.inr ⟨q, vm₁, B, X₁.warmed, X', hpost, hstep₁ _ fun acts => by rw [doInvoke_state]; exact hsteps⟩
theorem vx_callVW (X : Stand p l e R s m args below meth c T locs cells slots) (hexec : p.tables.exec = Jvm.exec) {own C : String} {index : Nat} {y : MethodName} {bytes : ByteArray} {maxL : Nat} {ret : Option FieldType} {hh : List (Nat × Nat × Nat × Nat)}
    (hown : s.vm.findClass own = some m.cls) (hlink : (Cond.methodLink own index y).before args s = true) (hinst : (Cond.instanceMethod y).before args s = true) (hsel : (Cond.selects C y y).before args s = true)
    (hcode : (Cond.codeWith y bytes maxL ret hh).before args s = true) (hy : y.cls ≠ "java/lang/invoke/MethodHandle" ∧ y.cls ≠ "java/lang/invoke/VarHandle")
    {W9 : Nat} {Pre : Pt → Array Value → Prop} {Post : Pt → Array Value → Option Value → Pt → Prop} (hK : Back l R p e below s args y 3 W9 Pre Post)
    {b : Addr} {cellB : Cell} (hcell : T.heap[b]? = some cellB) (hobj : cellB.vm.isStatics = false) (hcls : s.vm.findClass C = some cellB.cls)
    {g : JFrame} (hg : g.method = m) (hsize : g.locals.size = c.maxLocals) {argsL rest : List Value} (hlen : ∀ sig, parseMethodDescriptor y.desc = some sig → argsL.length = sig.parameters.length)
    (hstack : g.stack = argsL.reverse ++ .ref b :: rest) (hW : 2 * g.monitorRoom + (rest.map fun v => v.category).sum ≤ W9) (hdg : decode c.code g.pc = .ok (.invokevirtual index, 3))
    (hpre : ∀ vm₁, s.WarmedH vm₁ → Pre ⟨T.setVm vm₁, locs, cells, slots⟩ (Value.ref b :: argsL).toArray) :
    ∃ (v : Option Value) (vm₁ : Vm) (B : Pt), s.WarmedH vm₁ ∧ Stand p l e R s m args below meth c B.U B.locs B.cells B.slots ∧ Post ⟨T.setVm vm₁, locs, cells, slots⟩ (Value.ref b :: argsL).toArray v B ∧
      ∀ target, Steps p.tables e below (B.U.setTop { g with pc := g.pc + 3, stack := v.toList ++ rest }) target → Steps p.tables e below (T.setTop g) target := by
  obtain ⟨mk, methM, hnamed, hmethM, hstM, habM⟩ := Cond.instanceMethod_spec hinst
  obtain ⟨m8, methM', cM, hn8, hmethM', -, -, -, -, -, -, hsigM⟩ := Cond.codeWith_spec hcode
  cases Option.some.inj (hn8.symm.trans hnamed)
  cases hmethM.symm.trans hmethM'
  obtain ⟨c2, r2, m2, q1, q2, q3, q4, kP, hkP, hkPi⟩ := Cond.selects_spec hsel
  cases hcls.symm.trans q1
  cases (State.methodFound?_of_named hnamed hy).symm.trans q2
  cases hnamed.symm.trans q3
  have hselP : selectMethod e.platform s.vm cellB.cls mk = .method mk := by rw [Launch.admits_selectMethod X.admits]; exact q4
  obtain ⟨vm₁, X₁, hstep₁⟩ := X.invokevirtual hexec hown hlink hnamed hmethM hstM hkP hkPi hy (a := b) (cell := cellB) hcell
    (fun z h => by rw [h] at hobj; cases hobj) hselP hmethM habM hkP hkPi (g := g) hg (argsL := argsL) (rest := rest) (hlen _ hsigM) hstack hdg
  obtain ⟨v, B, X', hpost, hsteps⟩ := hK m meth c ⟨T.setVm vm₁, locs, cells, slots⟩ { g with stack := rest } (.invokevirtual index) mk (Value.ref b :: argsL).toArray X₁ hg hsize hdg hW (X₁.named hnamed) (hpre vm₁ X₁.warmed)
  exact ⟨v, vm₁, B, X₁.warmed, X', hpost, fun target h => hstep₁ _ fun acts => by rw [doInvoke_state]; exact hsteps.trans h⟩
abbrev vx_CVW (R : Room) (s : State) (args : Array Value) (own C : String) (index : Nat) (y : MethodName) (bytes : ByteArray) (maxL : Nat) (ret : Option FieldType) (hh : List (Nat × Nat × Nat × Nat)) (ws : List Cond) (rm : Room) (mc ms n : Nat) : Prop :=
  (rm.cells = mc ∧ rm.slots = ms ∧ rm.frames + 1 ≤ R.frames ∧ 8 + (maxL + 11) + rm.locals ≤ R.locals ∧ (∀ w ∈ ws, ∀ (a' : Array Value) (U : State), s.WarmedH U.vm → w.before a' U = true) ∧ Cond.codeWith y bytes maxL ret hh ∈ ws) ∧
  (Cond.codeWith y bytes maxL ret hh).before args s = true ∧ (Cond.initialized y.cls).before args s = true ∧ (y.cls ≠ "java/lang/invoke/MethodHandle" ∧ y.cls ≠ "java/lang/invoke/VarHandle") ∧
  (∀ sig, parseMethodDescriptor y.desc = some sig → n = sig.parameters.length) ∧ (Cond.methodLink own index y).before args s = true ∧ (Cond.instanceMethod y).before args s = true ∧ (Cond.selects C y y).before args s = true
theorem vx_cwVW {own C : String} {index maxL mc ms : Nat} {y : MethodName} {bytes : ByteArray} {ret : Option FieldType} {hh : List (Nat × Nat × Nat × Nat)} {Ts ws ws' : List Cond} {rm : Room} (n : Nat) (ht : ∀ w ∈ Ts, w.before args s = true) (hT : GoodIn Ts (wsV own index C y ws)) (hw : ws = Cond.codeWith y bytes maxL ret hh :: ws') (hrc : rm.cells = mc) (hrs : rm.slots = ms)
    (hd : y.cls = C ∧ y.cls ≠ "java/lang/invoke/MethodHandle" ∧ y.cls ≠ "java/lang/invoke/VarHandle" ∧ (parseMethodDescriptor y.desc).map (fun d => d.parameters.length) = some n) (hR : rm.frames + 1 ≤ R.frames ∧ 8 + (maxL + 11) + rm.locals ≤ R.locals) :
    vx_CVW R s args own C index y bytes maxL ret hh ws rm mc ms n := by
  obtain ⟨hC, hd⟩ := hd
  subst hC
  have ok : ∀ w ∈ wsV own index y.cls y ws, w.before args s = true := fun w h => ht w (hT w h).1
  have hG : GoodIn Ts ws := fun w h => hT w (by unfold wsV; exact List.mem_append_right _ h)
  have hc : Cond.codeWith y bytes maxL ret hh ∈ ws := by rw [hw]; exact List.mem_cons_self
  refine ⟨⟨hrc, hrs, hR.1, hR.2, pay_in ht hG, hc⟩, ht _ (hG _ hc).1, ok _ (by simp [wsV]), ⟨hd.1, hd.2.1⟩, fun sig h => ?_, ok _ (by simp [wsV]), ok _ (by simp [wsV]), ok _ (by simp [wsV])⟩
  have h2 := hd.2.2
  rw [h] at h2
  exact (Option.some.inj h2).symm
theorem vx_runVW {y : MethodName} {bytes cc : ByteArray} {maxL nL mc ms n index : Nat} {ret : Option FieldType} {hh : List (Nat × Nat × Nat × Nat)} {ws : List Cond} {rm : Room} {Pc : Array Value → State → Prop} {Qc : Array Value → State → Outcome → State → Prop} {free : Addr → Prop} {Ts : List Cond} {own C : String} {b : Addr} {As rest : List Value} {g : JFrame}
    (S : CallFix p m c cc nL s args Ts own) (hM : Met l y ws rm Pc Qc mc ms free) (cw : vx_CVW R s args own C index y bytes maxL ret hh ws rm mc ms n) (hp : PreV s H C b Pc As)
    (hg : g.method = m) (hn : As.length = n) (hsize : g.locals.size = nL) (hstack : g.stack = As.reverse ++ .ref b :: rest) (hW : 2 * g.monitorRoom + (rest.map fun v => v.category).sum ≤ 8) (hdg : decode cc g.pc = .ok (.invokevirtual index, 3)) (hf : cells + mc ≤ R.cells ∧ slots + ms ≤ R.slots) :
    va_Run p l e R s m args below meth c H locs cells slots mc ms g rest (Qc (Value.ref b :: As).toArray) free := by
  obtain ⟨⟨hrc, hrs, hfr, hlo, hws, hcw⟩, hcode, hini, hy, hlen, hl, hin, hse⟩ := cw
  have hK : Back l R p e below s args y 3 8 (PreOf R mc ms Pc) (PostOf Qc mc ms free) := va_backW (hh := hh) (bytes := bytes) (maxL := maxL) (ret := ret) hM hp.1 hrc hrs hfr hlo hws hcw (fun a' U hW => word_at hW (Or.inl (by first | rfl | simp [Cond.onTables, Cond.keeps, Cond.steady])) hini)
  obtain ⟨hx, hb, hml, ho, -⟩ := S
  obtain ⟨-, ⟨cellB, hcB, hoB, hclB⟩, hPc⟩ := hp
  intro T hT X
  obtain ⟨v, vm₁, ⟨U', l2, c2, s2⟩, hW₁, X', ⟨g', mk, t, L, e1, e2, hq, h1, hL, h2, h3⟩, st⟩ := vx_callVW X hx (C := C) (hh := hh) (bytes := bytes) (maxL := maxL) (ret := ret) ho hl hin hse hcode hy hK (by rw [hT]; exact hcB) hoB hclB hg (hsize.trans hml.symm) (argsL := As) (rest := rest) (fun sig h => hn.trans (hlen sig h)) hstack hW (by rw [hb]; exact hdg)
    (fun vm₁ hW₁ => ⟨hf.1, hf.2, hPc (T.setVm vm₁) hT hW₁⟩)
  dsimp only [Pt.U, Pt.locs, Pt.cells, Pt.slots] at X' e1 e2 h1 h2 h3 st
  subst h1; subst h2; subst h3
  exact ⟨v, (T.setVm vm₁).calling g' mk (Value.ref b :: As).toArray, t, U', L, hT, X', hL, e1, e2, hq, st⟩
section
variable {y : MethodName} {bytes cc : ByteArray} {maxL nL mc ms n index : Nat} {ret : Option FieldType} {ws : List Cond} {rm : Room} {Pc : Array Value → State → Prop} {Qc : Array Value → State → Outcome → State → Prop} {XC : String → State → State → Prop} {free : Addr → Prop} {Ts : List Cond} {own C : String} {b : Addr} {As rest : List Value} {g : JFrame}
theorem vx_runVX {hh : List (Nat × Nat × Nat × Nat)} (S : CallFix p m c cc nL s args Ts own) (hM : vx_Met l y ws rm Pc Qc XC mc ms free) (cw : vx_CVW R s args own C index y bytes maxL ret hh ws rm mc ms n) (hp : PreV s H C b Pc As)
    (hg : g.method = m) (hn : As.length = n) (hsize : g.locals.size = nL) (hstack : g.stack = As.reverse ++ .ref b :: rest) (hW : 2 * g.monitorRoom + (rest.map fun v => v.category).sum ≤ 8) (hdg : decode cc g.pc = .ok (.invokevirtual index, 3)) (hf : cells + mc ≤ R.cells ∧ slots + ms ≤ R.slots) :
    vx_Run p l e R s m args below meth c H locs cells slots mc ms g rest (Qc (Value.ref b :: As).toArray) XC free := by
  obtain ⟨⟨hrc, hrs, hfr, hlo, hws, hcw⟩, hcode, hini, hy, hlen, hl, hin, hse⟩ := cw
  have hK : vx_Back l R p e below s args y 3 8 (PreOf R mc ms Pc) (PostOf Qc mc ms free) (vx_Post XC mc ms free) := vx_backW (hh := hh) (bytes := bytes) (maxL := maxL) (ret := ret) hM hp.1 hrc hrs hfr hlo hws hcw (fun a' U hW => word_at hW (Or.inl (by first | rfl | simp [Cond.onTables, Cond.keeps, Cond.steady])) hini)
  obtain ⟨hx, hb, hml, ho, -⟩ := S
  obtain ⟨-, ⟨cellB, hcB, hoB, hclB⟩, hPc⟩ := hp
  intro T hT X
  rcases vx_callVX X hx (C := C) (hh := hh) (bytes := bytes) (maxL := maxL) (ret := ret) ho hl hin hse hcode hy hK (by rw [hT]; exact hcB) hoB hclB hg (hsize.trans hml.symm) (argsL := As) (rest := rest) (fun sig h => hn.trans (hlen sig h)) hstack hW (by rw [hb]; exact hdg)
    (fun vm₁ hW₁ => ⟨hf.1, hf.2, hPc (T.setVm vm₁) hT hW₁⟩) with ⟨v, vm₁, ⟨U', l2, c2, s2⟩, hW₁, X', ⟨g', mk, t, L, e1, e2, hq, h1, hL, h2, h3⟩, st⟩ | ⟨q, vm₁, ⟨U', l2, c2, s2⟩, hW₁, X', ⟨g', mk, t, L, E, ce, e1, e2, hq, hce, hcv, hcl, h1, hL, h2, h3⟩, st⟩
  · dsimp only [Pt.U, Pt.locs, Pt.cells, Pt.slots] at X' e1 e2 h1 h2 h3 st
    subst h1; subst h2; subst h3
    exact Or.inl ⟨v, (T.setVm vm₁).calling g' mk (Value.ref b :: As).toArray, t, U', L, hT, X', hL, e1, e2, hq, st⟩
  · dsimp only [Pt.U, Pt.locs, Pt.cells, Pt.slots] at X' e1 e2 h1 h2 h3 st hcl
    subst h1; subst h2; subst h3
    exact Or.inr ⟨q, (T.setVm vm₁).calling g' mk (Value.ref b :: As).toArray, t, U', L, E, ce, hT, X', hL, e1, e2, hq, hce, hcv, vx_cls hW₁ hcl, st⟩
theorem vx_runSX {hh : List (Nat × Nat × Nat × Nat)} (S : CallFix p m c cc nL s args Ts own) (hM : vx_Met l y ws rm Pc Qc XC mc ms free) (cw : vx_CSW R s args own index y bytes maxL ret hh ws rm mc ms n) (hp : PreS s H Pc As)
    (hg : g.method = m) (hn : As.length = n) (hsize : g.locals.size = nL) (hstack : g.stack = As.reverse ++ rest) (hW : 2 * g.monitorRoom + (rest.map fun v => v.category).sum ≤ 8) (hdg : decode cc g.pc = .ok (.invokestatic index, 3)) (hf : cells + mc ≤ R.cells ∧ slots + ms ≤ R.slots) :
    vx_Run p l e R s m args below meth c H locs cells slots mc ms g rest (Qc As.toArray) XC free := by
  obtain ⟨⟨hrc, hrs, hfr, hlo, hws, hcw⟩, hcode, hini, hy, hlen, hl, hstt⟩ := cw
  have hK : vx_Back l R p e below s args y 3 8 (PreOf R mc ms Pc) (PostOf Qc mc ms free) (vx_Post XC mc ms free) := vx_backW (hh := hh) (bytes := bytes) (maxL := maxL) (ret := ret) hM hp.1 hrc hrs hfr hlo hws hcw (fun a' U hW => word_at hW (Or.inl (by first | rfl | simp [Cond.onTables, Cond.keeps, Cond.steady])) hini)
  obtain ⟨hx, hb, hml, ho, -⟩ := S
  intro T hT X
  rcases vx_callSX X hx (hh := hh) (bytes := bytes) (maxL := maxL) (ret := ret) ho hl hstt hini hcode hy hK hg (hsize.trans hml.symm) (argsL := As) (rest := rest) (fun sig h => hn.trans (hlen sig h)) hstack hW (by rw [hb]; exact hdg)
    (fun vm₁ hW₁ => ⟨hf.1, hf.2, hp.2 (T.setVm vm₁) hT hW₁⟩) with ⟨v, vm₁, ⟨U', l2, c2, s2⟩, hW₁, X', ⟨g', mk, t, L, e1, e2, hq, h1, hL, h2, h3⟩, st⟩ | ⟨q, vm₁, ⟨U', l2, c2, s2⟩, hW₁, X', ⟨g', mk, t, L, E, ce, e1, e2, hq, hce, hcv, hcl, h1, hL, h2, h3⟩, st⟩
  · dsimp only [Pt.U, Pt.locs, Pt.cells, Pt.slots] at X' e1 e2 h1 h2 h3 st
    subst h1; subst h2; subst h3
    exact Or.inl ⟨v, (T.setVm vm₁).calling g' mk As.toArray, t, U', L, hT, X', hL, e1, e2, hq, st⟩
  · dsimp only [Pt.U, Pt.locs, Pt.cells, Pt.slots] at X' e1 e2 h1 h2 h3 st hcl
    subst h1; subst h2; subst h3
    exact Or.inr ⟨q, (T.setVm vm₁).calling g' mk As.toArray, t, U', L, E, ce, hT, X', hL, e1, e2, hq, hce, hcv, vx_cls hW₁ hcl, st⟩
end
end VXH
theorem vx_ofWH {l : Launch} {y : MethodName} {ws ws' : List Cond} {rm : Room} {Pc : Array Value → State → Prop} {Qc : Array Value → State → Outcome → State → Prop} {XC : String → State → State → Prop} {mc ms : Nat} {free : Addr → Prop} {cc : ByteArray} {maxL : Nat} {ret : Option FieldType} {hh : List (Nat × Nat × Nat × Nat)}
    (hy : plainName y.cls = true) (hw : ws = Cond.codeWith y cc maxL ret hh :: ws')
    (body : ∀ p e s m args below meth c s₁, BodyLoose p l y (headSpec ws rm) cc maxL ret e s m args below meth c s₁ → c.maxLocals = maxL → Pc args s →
      W p l e (headSpec ws rm).room s m args below meth c s.heap [] 0 0 (vx_MQ below Qc XC args s mc ms free) (entryFrame m args maxL)) : vx_Met l y ws rm Pc Qc XC mc ms free := by
  refine MetFree.of_bodyS (code := cc) (maxLocals := maxL) (ret := ret) hy ?_ ?_
  · intro args s m h hn
    obtain ⟨m9, meth, c, hn9, h1, h2, h3, h4, -, h5, h6, -⟩ := Cond.codeWith_spec (atoms_spec (ws := ws) h _ (by rw [hw]; exact List.mem_cons_self))
    cases hn.symm.trans hn9
    exact ⟨meth, c, h1, h2, h3, h4, h5, h6⟩
  · intro p e s m args below meth c s₁ B hml hP _
    have hh0 : s₁.heap = s.heap := by rw [B.state]; rfl
    obtain ⟨t, a1, o, b1, b2, b3⟩ := body p e s m args below meth c s₁ B hml hP s₁ hh0 (Stand.of_body B)
    exact ⟨t, o, a1, b1, b2, b3⟩
/-! ===== END ===== -/
end
section
/-! ===== BEGIN printed: names, fields, word lists, decode rows ===== -/
def RX0 : String := "MarketAwnings$Awning"
def TX0 : u_T := fun k => match k with
  | 0 => ("MarketAwnings$Awning", "x", "I", false)
  | 1 => ("MarketAwnings$Awning", "y", "I", false)
  | 2 => ("MarketAwnings$Awning", "w", "I", true)
  | 3 => ("MarketAwnings$Awning", "h", "I", true)
  | 4 => ("MarketAwnings$Awning", "level", "I", true)
  | 5 => ("MarketAwnings$Awning", "side", "I", true)
  | 6 => ("MarketAwnings$Awning", "out", "Z", false)
  | _ => ("MarketAwnings$Awning", "dripped", "I", false)
def tyX0 : Nat → FieldType := fun k => match k with
  | 0 => .int
  | 1 => .int
  | 2 => .int
  | 3 => .int
  | 4 => .int
  | 5 => .int
  | 6 => .boolean
  | _ => .int
abbrev wsX00 : List Cond := u_ws RX0 TX0 8
theorem nmX0 : ∀ a, a < 8 → ∀ b, b < 8 → a ≠ b → (TX0 a).2.1 ≠ (TX0 b).2.1 := by decide +kernel
theorem tyX0_ok : ∀ k, k < 8 → parseFieldDescriptor (TX0 k).2.2.1 = some (tyX0 k) := by decide +kernel
abbrev cX0_init : ByteArray := prog_2_method_1_code
def yX0_init : MethodName := ⟨RX0, "<init>", "(IIIIII)V"⟩
abbrev cX0_covers : ByteArray := prog_2_method_2_code
def yX0_covers : MethodName := ⟨RX0, "covers", "(II)Z"⟩
abbrev cX0_dripsAlongRows : ByteArray := prog_2_method_3_code
def yX0_dripsAlongRows : MethodName := ⟨RX0, "dripsAlongRows", "()Z"⟩
abbrev cX0_cellsBeyond : ByteArray := prog_2_method_4_code
def yX0_cellsBeyond : MethodName := ⟨RX0, "cellsBeyond", "()I"⟩
abbrev cX0_columnBeyond : ByteArray := prog_2_method_5_code
def yX0_columnBeyond : MethodName := ⟨RX0, "columnBeyond", "(I)I"⟩
abbrev cX0_rowBeyond : ByteArray := prog_2_method_6_code
def yX0_rowBeyond : MethodName := ⟨RX0, "rowBeyond", "(I)I"⟩
def RX1 : String := "MarketAwnings$Canopy"
def TX1 : u_T := fun k => match k with
  | 0 => ("MarketAwnings$Canopy", "awnings", "Ljava/util/ArrayList;", true)
  | 1 => ("MarketAwnings$Canopy", "layers", "[I", true)
  | 2 => ("MarketAwnings$Canopy", "reached", "[I", true)
  | 3 => ("MarketAwnings$Canopy", "queue", "[I", true)
  | _ => ("MarketAwnings$Canopy", "queued", "I", false)
def tyX1 : Nat → FieldType := fun k => match k with
  | 0 => .object "java/util/ArrayList"
  | 1 => .array .int
  | 2 => .array .int
  | 3 => .array .int
  | _ => .int
abbrev wsX10 : List Cond := u_ws RX1 TX1 5
theorem nmX1 : ∀ a, a < 5 → ∀ b, b < 5 → a ≠ b → (TX1 a).2.1 ≠ (TX1 b).2.1 := by decide +kernel
theorem tyX1_ok : ∀ k, k < 5 → parseFieldDescriptor (TX1 k).2.2.1 = some (tyX1 k) := by decide +kernel
abbrev cX1_init : ByteArray := prog_3_method_1_code
def yX1_init : MethodName := ⟨RX1, "<init>", "()V"⟩
abbrev cX1_size : ByteArray := prog_3_method_2_code
def yX1_size : MethodName := ⟨RX1, "size", "()I"⟩
abbrev cX1_sizeOut : ByteArray := prog_3_method_3_code
def yX1_sizeOut : MethodName := ⟨RX1, "sizeOut", "()I"⟩
abbrev cX1_numbered : ByteArray := prog_3_method_4_code
def yX1_numbered : MethodName := ⟨RX1, "numbered", "(I)LMarketAwnings$Awning;"⟩
abbrev cX1_append : ByteArray := prog_3_method_5_code
def yX1_append : MethodName := ⟨RX1, "append", "(LMarketAwnings$Awning;)V"⟩
abbrev cX1_drop : ByteArray := prog_3_method_6_code
def yX1_drop : MethodName := ⟨RX1, "drop", "(I)V"⟩
abbrev cX1_layOut : ByteArray := prog_3_method_7_code
def yX1_layOut : MethodName := ⟨RX1, "layOut", "()V"⟩
abbrev cX1_layOver : ByteArray := prog_3_method_8_code
def yX1_layOver : MethodName := ⟨RX1, "layOver", "(LMarketAwnings$Awning;)V"⟩
abbrev cX1_layersAt : ByteArray := prog_3_method_9_code
def yX1_layersAt : MethodName := ⟨RX1, "layersAt", "(II)I"⟩
abbrev cX1_highestBelow : ByteArray := prog_3_method_10_code
def yX1_highestBelow : MethodName := ⟨RX1, "highestBelow", "(III)I"⟩
abbrev cX1_covered : ByteArray := prog_3_method_11_code
def yX1_covered : MethodName := ⟨RX1, "covered", "()I"⟩
abbrev cX1_cellsWithLayers : ByteArray := prog_3_method_12_code
def yX1_cellsWithLayers : MethodName := ⟨RX1, "cellsWithLayers", "(I)I"⟩
abbrev cX1_coveredOnlyBy : ByteArray := prog_3_method_13_code
def yX1_coveredOnlyBy : MethodName := ⟨RX1, "coveredOnlyBy", "(LMarketAwnings$Awning;)I"⟩
abbrev cX1_notCoveredIn : ByteArray := prog_3_method_14_code
def yX1_notCoveredIn : MethodName := ⟨RX1, "notCoveredIn", "(IIII)I"⟩
abbrev cX1_outline : ByteArray := prog_3_method_15_code
def yX1_outline : MethodName := ⟨RX1, "outline", "()I"⟩
abbrev cX1_openSides : ByteArray := prog_3_method_16_code
def yX1_openSides : MethodName := ⟨RX1, "openSides", "(II)I"⟩
abbrev cX1_openAt : ByteArray := prog_3_method_17_code
def yX1_openAt : MethodName := ⟨RX1, "openAt", "(II)I"⟩
abbrev cX1_parts : ByteArray := prog_3_method_18_code
def yX1_parts : MethodName := ⟨RX1, "parts", "()I"⟩
abbrev cX1_reachAllFromQueue : ByteArray := prog_3_method_19_code
def yX1_reachAllFromQueue : MethodName := ⟨RX1, "reachAllFromQueue", "()V"⟩
abbrev cX1_reach : ByteArray := prog_3_method_20_code
def yX1_reach : MethodName := ⟨RX1, "reach", "(II)V"⟩
abbrev cX1_coveredInColumn : ByteArray := prog_3_method_21_code
def yX1_coveredInColumn : MethodName := ⟨RX1, "coveredInColumn", "(I)I"⟩
abbrev cX1_runsInColumn : ByteArray := prog_3_method_22_code
def yX1_runsInColumn : MethodName := ⟨RX1, "runsInColumn", "(I)I"⟩
abbrev cX1_longestRunInColumn : ByteArray := prog_3_method_23_code
def yX1_longestRunInColumn : MethodName := ⟨RX1, "longestRunInColumn", "(I)I"⟩
abbrev cX1_mostLayersInColumn : ByteArray := prog_3_method_24_code
def yX1_mostLayersInColumn : MethodName := ⟨RX1, "mostLayersInColumn", "(I)I"⟩
def RX2 : String := "MarketAwnings$Shower"
def TX2 : u_T := fun k => match k with
  | 0 => ("MarketAwnings$Shower", "canopy", "LMarketAwnings$Canopy;", true)
  | 1 => ("MarketAwnings$Shower", "fallen", "[I", true)
  | 2 => ("MarketAwnings$Shower", "caught", "[I", true)
  | 3 => ("MarketAwnings$Shower", "onGround", "I", false)
  | _ => ("MarketAwnings$Shower", "ranOff", "I", false)
def tyX2 : Nat → FieldType := fun k => match k with
  | 0 => .object "MarketAwnings$Canopy"
  | 1 => .array .int
  | 2 => .array .int
  | 3 => .int
  | _ => .int
abbrev wsX20 : List Cond := u_ws RX2 TX2 5
theorem nmX2 : ∀ a, a < 5 → ∀ b, b < 5 → a ≠ b → (TX2 a).2.1 ≠ (TX2 b).2.1 := by decide +kernel
theorem tyX2_ok : ∀ k, k < 5 → parseFieldDescriptor (TX2 k).2.2.1 = some (tyX2 k) := by decide +kernel
abbrev cX2_init : ByteArray := prog_4_method_1_code
def yX2_init : MethodName := ⟨RX2, "<init>", "(LMarketAwnings$Canopy;)V"⟩
abbrev cX2_pour : ByteArray := prog_4_method_2_code
def yX2_pour : MethodName := ⟨RX2, "pour", "(I)V"⟩
abbrev cX2_fallenAt : ByteArray := prog_4_method_3_code
def yX2_fallenAt : MethodName := ⟨RX2, "fallenAt", "(II)I"⟩
abbrev cX2_caughtBy : ByteArray := prog_4_method_4_code
def yX2_caughtBy : MethodName := ⟨RX2, "caughtBy", "(I)I"⟩
abbrev cX2_dry : ByteArray := prog_4_method_5_code
def yX2_dry : MethodName := ⟨RX2, "dry", "()V"⟩
abbrev cX2_dripFromLevel : ByteArray := prog_4_method_6_code
def yX2_dripFromLevel : MethodName := ⟨RX2, "dripFromLevel", "(I)V"⟩
abbrev cX2_drip : ByteArray := prog_4_method_7_code
def yX2_drip : MethodName := ⟨RX2, "drip", "(LMarketAwnings$Awning;I)V"⟩
abbrev cX2_land : ByteArray := prog_4_method_8_code
def yX2_land : MethodName := ⟨RX2, "land", "(IIII)V"⟩
def RX3 : String := "MarketAwnings$Stall"
def TX3 : u_T := fun k => match k with
  | 0 => ("MarketAwnings$Stall", "x", "I", true)
  | 1 => ("MarketAwnings$Stall", "y", "I", true)
  | _ => ("MarketAwnings$Stall", "groundBefore", "I", true)
def tyX3 : Nat → FieldType := fun k => match k with
  | 0 => .int
  | 1 => .int
  | _ => .int
abbrev wsX30 : List Cond := u_ws RX3 TX3 3
theorem nmX3 : ∀ a, a < 3 → ∀ b, b < 3 → a ≠ b → (TX3 a).2.1 ≠ (TX3 b).2.1 := by decide +kernel
theorem tyX3_ok : ∀ k, k < 3 → parseFieldDescriptor (TX3 k).2.2.1 = some (tyX3 k) := by decide +kernel
abbrev cX3_init : ByteArray := prog_5_method_1_code
def yX3_init : MethodName := ⟨RX3, "<init>", "(III)V"⟩
def RX4 : String := "MarketAwnings"
def TX4 : u_T := fun k => match k with
  | 0 => ("MarketAwnings", "canopy", "LMarketAwnings$Canopy;", true)
  | 1 => ("MarketAwnings", "shower", "LMarketAwnings$Shower;", true)
  | 2 => ("MarketAwnings", "stalls", "Ljava/util/ArrayList;", true)
  | 3 => ("MarketAwnings", "ground", "[I", true)
  | 4 => ("MarketAwnings", "hours", "I", false)
  | 5 => ("MarketAwnings", "groundDrops", "I", false)
  | _ => ("MarketAwnings", "offDrops", "I", false)
def tyX4 : Nat → FieldType := fun k => match k with
  | 0 => .object "MarketAwnings$Canopy"
  | 1 => .object "MarketAwnings$Shower"
  | 2 => .object "java/util/ArrayList"
  | 3 => .array .int
  | 4 => .int
  | 5 => .int
  | _ => .int
abbrev wsX40 : List Cond := u_ws RX4 TX4 7
theorem nmX4 : ∀ a, a < 7 → ∀ b, b < 7 → a ≠ b → (TX4 a).2.1 ≠ (TX4 b).2.1 := by decide +kernel
theorem tyX4_ok : ∀ k, k < 7 → parseFieldDescriptor (TX4 k).2.2.1 = some (tyX4 k) := by decide +kernel
abbrev cX4_init : ByteArray := prog_1_method_1_code
def yX4_init : MethodName := ⟨RX4, "<init>", "()V"⟩
abbrev cX4_hang : ByteArray := prog_1_method_2_code
def yX4_hang : MethodName := ⟨RX4, "hang", "(IIIIII)I"⟩
abbrev cX4_roll : ByteArray := prog_1_method_3_code
def yX4_roll : MethodName := ⟨RX4, "roll", "(I)Z"⟩
abbrev cX4_move : ByteArray := prog_1_method_4_code
def yX4_move : MethodName := ⟨RX4, "move", "(III)I"⟩
abbrev cX4_take : ByteArray := prog_1_method_5_code
def yX4_take : MethodName := ⟨RX4, "take", "(I)I"⟩
abbrev cX4_stall : ByteArray := prog_1_method_6_code
def yX4_stall : MethodName := ⟨RX4, "stall", "(II)I"⟩
abbrev cX4_rain : ByteArray := prog_1_method_7_code
def yX4_rain : MethodName := ⟨RX4, "rain", "(I)I"⟩
abbrev cX4_about : ByteArray := prog_1_method_8_code
def yX4_about : MethodName := ⟨RX4, "about", "(II)I"⟩
abbrev cX4_cell : ByteArray := prog_1_method_9_code
def yX4_cell : MethodName := ⟨RX4, "cell", "(III)I"⟩
abbrev cX4_cord : ByteArray := prog_1_method_10_code
def yX4_cord : MethodName := ⟨RX4, "cord", "(II)I"⟩
abbrev cX4_told : ByteArray := prog_1_method_11_code
def yX4_told : MethodName := ⟨RX4, "told", "(II)I"⟩
abbrev cX4_share : ByteArray := prog_1_method_12_code
def yX4_share : MethodName := ⟨RX4, "share", "(II)I"⟩
abbrev cX4_count : ByteArray := prog_1_method_13_code
def yX4_count : MethodName := ⟨RX4, "count", "(I)I"⟩
abbrev cX4_would : ByteArray := prog_1_method_14_code
def yX4_would : MethodName := ⟨RX4, "would", "(II)I"⟩
abbrev cX4_best : ByteArray := prog_1_method_15_code
def yX4_best : MethodName := ⟨RX4, "best", "(III)I"⟩
abbrev cX4_advise : ByteArray := prog_1_method_16_code
def yX4_advise : MethodName := ⟨RX4, "advise", "()I"⟩
abbrev cX4_mean : ByteArray := prog_1_method_17_code
def yX4_mean : MethodName := ⟨RX4, "mean", "()D"⟩
abbrev cX4_digest : ByteArray := prog_1_method_18_code
def yX4_digest : MethodName := ⟨RX4, "digest", "()J"⟩
abbrev cX4_digestOfColumn : ByteArray := prog_1_method_19_code
def yX4_digestOfColumn : MethodName := ⟨RX4, "digestOfColumn", "(JI)J"⟩
abbrev cX4_numberedStall : ByteArray := prog_1_method_20_code
def yX4_numberedStall : MethodName := ⟨RX4, "numberedStall", "(I)LMarketAwnings$Stall;"⟩
abbrev cX4_hasStallAt : ByteArray := prog_1_method_21_code
def yX4_hasStallAt : MethodName := ⟨RX4, "hasStallAt", "(II)Z"⟩
abbrev cX4_stallsNotCovered : ByteArray := prog_1_method_22_code
def yX4_stallsNotCovered : MethodName := ⟨RX4, "stallsNotCovered", "()I"⟩
abbrev cX4_gotBy : ByteArray := prog_1_method_23_code
def yX4_gotBy : MethodName := ⟨RX4, "gotBy", "(LMarketAwnings$Stall;)I"⟩
abbrev cX4_groundAt : ByteArray := prog_1_method_24_code
def yX4_groundAt : MethodName := ⟨RX4, "groundAt", "(II)I"⟩
abbrev cX4_isCell : ByteArray := prog_1_method_25_code
def yX4_isCell : MethodName := ⟨RX4, "isCell", "(II)Z"⟩
abbrev cX4_requireCell : ByteArray := prog_1_method_26_code
def yX4_requireCell : MethodName := ⟨RX4, "requireCell", "(II)V"⟩
abbrev cX4_requireExtent : ByteArray := prog_1_method_27_code
def yX4_requireExtent : MethodName := ⟨RX4, "requireExtent", "(II)V"⟩
abbrev cX4_requireRoomInSquare : ByteArray := prog_1_method_28_code
def yX4_requireRoomInSquare : MethodName := ⟨RX4, "requireRoomInSquare", "(IIII)V"⟩
abbrev cX4_requireDrops : ByteArray := prog_1_method_29_code
def yX4_requireDrops : MethodName := ⟨RX4, "requireDrops", "(I)V"⟩
abbrev cX4_requireWhat : ByteArray := prog_1_method_30_code
def yX4_requireWhat : MethodName := ⟨RX4, "requireWhat", "(II)V"⟩
def RX5 : String := "MarketAwningsModel"
def TX5 : u_T := fun k => match k with
  | 0 => ("MarketAwningsModel", "thrown", "I", false)
  | 1 => ("MarketAwningsModel", "awnings", "I", false)
  | 2 => ("MarketAwningsModel", "sheet", "[I", true)
  | 3 => ("MarketAwningsModel", "stalls", "I", false)
  | 4 => ("MarketAwningsModel", "at", "[I", true)
  | 5 => ("MarketAwningsModel", "had", "[I", true)
  | 6 => ("MarketAwningsModel", "ground", "[I", true)
  | 7 => ("MarketAwningsModel", "hours", "I", false)
  | 8 => ("MarketAwningsModel", "ranOff", "I", false)
  | 9 => ("MarketAwningsModel", "fell", "[I", true)
  | _ => ("MarketAwningsModel", "load", "[I", true)
def tyX5 : Nat → FieldType := fun k => match k with
  | 0 => .int
  | 1 => .int
  | 2 => .array .int
  | 3 => .int
  | 4 => .array .int
  | 5 => .array .int
  | 6 => .array .int
  | 7 => .int
  | 8 => .int
  | 9 => .array .int
  | _ => .array .int
abbrev wsX50 : List Cond := u_ws RX5 TX5 11
theorem nmX5 : ∀ a, a < 11 → ∀ b, b < 11 → a ≠ b → (TX5 a).2.1 ≠ (TX5 b).2.1 := by decide +kernel
theorem tyX5_ok : ∀ k, k < 11 → parseFieldDescriptor (TX5 k).2.2.1 = some (tyX5 k) := by decide +kernel
abbrev cX5_init : ByteArray := prog_7_method_1_code
def yX5_init : MethodName := ⟨RX5, "<init>", "()V"⟩
abbrev cX5_thrown : ByteArray := prog_7_method_2_code
def yX5_thrown : MethodName := ⟨RX5, "thrown", "()I"⟩
abbrev cX5_no : ByteArray := prog_7_method_3_code
def yX5_no : MethodName := ⟨RX5, "no", "(I)I"⟩
abbrev cX5_isIn : ByteArray := prog_7_method_4_code
def yX5_isIn : MethodName := ⟨RX5, "isIn", "(III)Z"⟩
abbrev cX5_isCell : ByteArray := prog_7_method_5_code
def yX5_isCell : MethodName := ⟨RX5, "isCell", "(II)Z"⟩
abbrev cX5_fits : ByteArray := prog_7_method_6_code
def yX5_fits : MethodName := ⟨RX5, "fits", "(IIII)Z"⟩
abbrev cX5_isAwning : ByteArray := prog_7_method_7_code
def yX5_isAwning : MethodName := ⟨RX5, "isAwning", "(I)Z"⟩
abbrev cX5_isStall : ByteArray := prog_7_method_8_code
def yX5_isStall : MethodName := ⟨RX5, "isStall", "(I)Z"⟩
abbrev cX5_of : ByteArray := prog_7_method_9_code
def yX5_of : MethodName := ⟨RX5, "of", "(II)I"⟩
abbrev cX5_isOut : ByteArray := prog_7_method_10_code
def yX5_isOut : MethodName := ⟨RX5, "isOut", "(I)Z"⟩
abbrev cX5_many : ByteArray := prog_7_method_11_code
def yX5_many : MethodName := ⟨RX5, "many", "(I)I"⟩
abbrev cX5_rows : ByteArray := prog_7_method_12_code
def yX5_rows : MethodName := ⟨RX5, "rows", "(II)I"⟩
abbrev cX5_bits : ByteArray := prog_7_method_13_code
def yX5_bits : MethodName := ⟨RX5, "bits", "(II)I"⟩
abbrev cX5_covered : ByteArray := prog_7_method_14_code
def yX5_covered : MethodName := ⟨RX5, "covered", "(II)I"⟩
abbrev cX5_covered_ : ByteArray := prog_7_method_15_code
def yX5_covered_ : MethodName := ⟨RX5, "covered", "(I)I"⟩
abbrev cX5_lying : ByteArray := prog_7_method_16_code
def yX5_lying : MethodName := ⟨RX5, "lying", "(II)I"⟩
abbrev cX5_below : ByteArray := prog_7_method_17_code
def yX5_below : MethodName := ⟨RX5, "below", "(I)I"⟩
abbrev cX5_isHigher : ByteArray := prog_7_method_18_code
def yX5_isHigher : MethodName := ⟨RX5, "isHigher", "(II)Z"⟩
abbrev cX5_highest : ByteArray := prog_7_method_19_code
def yX5_highest : MethodName := ⟨RX5, "highest", "(III)I"⟩
abbrev cX5_fall : ByteArray := prog_7_method_20_code
def yX5_fall : MethodName := ⟨RX5, "fall", "(IIII)V"⟩
abbrev cX5_drip : ByteArray := prog_7_method_21_code
def yX5_drip : MethodName := ⟨RX5, "drip", "(I)I"⟩
abbrev cX5_pour : ByteArray := prog_7_method_22_code
def yX5_pour : MethodName := ⟨RX5, "pour", "(I)I"⟩
abbrev cX5_hang : ByteArray := prog_7_method_23_code
def yX5_hang : MethodName := ⟨RX5, "hang", "(IIIIII)I"⟩
abbrev cX5_roll : ByteArray := prog_7_method_24_code
def yX5_roll : MethodName := ⟨RX5, "roll", "(I)Z"⟩
abbrev cX5_move : ByteArray := prog_7_method_25_code
def yX5_move : MethodName := ⟨RX5, "move", "(III)I"⟩
abbrev cX5_take : ByteArray := prog_7_method_26_code
def yX5_take : MethodName := ⟨RX5, "take", "(I)I"⟩
abbrev cX5_stall : ByteArray := prog_7_method_27_code
def yX5_stall : MethodName := ⟨RX5, "stall", "(II)I"⟩
abbrev cX5_rain : ByteArray := prog_7_method_28_code
def yX5_rain : MethodName := ⟨RX5, "rain", "(I)I"⟩
abbrev cX5_own : ByteArray := prog_7_method_29_code
def yX5_own : MethodName := ⟨RX5, "own", "(I)I"⟩
abbrev cX5_awningTold : ByteArray := prog_7_method_30_code
def yX5_awningTold : MethodName := ⟨RX5, "awningTold", "(II)I"⟩
abbrev cX5_about : ByteArray := prog_7_method_31_code
def yX5_about : MethodName := ⟨RX5, "about", "(II)I"⟩
abbrev cX5_cellTold : ByteArray := prog_7_method_32_code
def yX5_cellTold : MethodName := ⟨RX5, "cellTold", "(III)I"⟩
abbrev cX5_cell : ByteArray := prog_7_method_33_code
def yX5_cell : MethodName := ⟨RX5, "cell", "(III)I"⟩
abbrev cX5_longest : ByteArray := prog_7_method_34_code
def yX5_longest : MethodName := ⟨RX5, "longest", "(I)I"⟩
abbrev cX5_deepest : ByteArray := prog_7_method_35_code
def yX5_deepest : MethodName := ⟨RX5, "deepest", "(I)I"⟩
abbrev cX5_cordTold : ByteArray := prog_7_method_36_code
def yX5_cordTold : MethodName := ⟨RX5, "cordTold", "(II)I"⟩
abbrev cX5_cord : ByteArray := prog_7_method_37_code
def yX5_cord : MethodName := ⟨RX5, "cord", "(II)I"⟩
abbrev cX5_got : ByteArray := prog_7_method_38_code
def yX5_got : MethodName := ⟨RX5, "got", "(I)I"⟩
abbrev cX5_stallTold : ByteArray := prog_7_method_39_code
def yX5_stallTold : MethodName := ⟨RX5, "stallTold", "(II)I"⟩
abbrev cX5_told : ByteArray := prog_7_method_40_code
def yX5_told : MethodName := ⟨RX5, "told", "(II)I"⟩
abbrev cX5_share : ByteArray := prog_7_method_41_code
def yX5_share : MethodName := ⟨RX5, "share", "(II)I"⟩
abbrev cX5_outline : ByteArray := prog_7_method_42_code
def yX5_outline : MethodName := ⟨RX5, "outline", "()I"⟩
abbrev cX5_parts : ByteArray := prog_7_method_43_code
def yX5_parts : MethodName := ⟨RX5, "parts", "()I"⟩
abbrev cX5_spreads : ByteArray := prog_7_method_44_code
def yX5_spreads : MethodName := ⟨RX5, "spreads", "([I[I)Z"⟩
abbrev cX5_sumOf : ByteArray := prog_7_method_45_code
def yX5_sumOf : MethodName := ⟨RX5, "sumOf", "(I)I"⟩
abbrev cX5_out : ByteArray := prog_7_method_46_code
def yX5_out : MethodName := ⟨RX5, "out", "()I"⟩
abbrev cX5_open : ByteArray := prog_7_method_47_code
def yX5_open : MethodName := ⟨RX5, "open", "()I"⟩
abbrev cX5_counted : ByteArray := prog_7_method_48_code
def yX5_counted : MethodName := ⟨RX5, "counted", "(I)I"⟩
abbrev cX5_count : ByteArray := prog_7_method_49_code
def yX5_count : MethodName := ⟨RX5, "count", "(I)I"⟩
abbrev cX5_would : ByteArray := prog_7_method_50_code
def yX5_would : MethodName := ⟨RX5, "would", "(II)I"⟩
abbrev cX5_best : ByteArray := prog_7_method_51_code
def yX5_best : MethodName := ⟨RX5, "best", "(III)I"⟩
abbrev cX5_advise : ByteArray := prog_7_method_52_code
def yX5_advise : MethodName := ⟨RX5, "advise", "()I"⟩
abbrev cX5_mean : ByteArray := prog_7_method_53_code
def yX5_mean : MethodName := ⟨RX5, "mean", "()D"⟩
abbrev cX5_digest : ByteArray := prog_7_method_54_code
def yX5_digest : MethodName := ⟨RX5, "digest", "()J"⟩
def RJx145de : String := "java/io/Serializable"
def TJx145de : u_T := fun k => match k with
  | _ => ("", "", "", false)
def tyJx145de : Nat → FieldType := fun k => match k with
  | _ => .int
abbrev wsJx145de0 : List Cond := u_ws RJx145de TJx145de 0
theorem nmJx145de : ∀ a, a < 0 → ∀ b, b < 0 → a ≠ b → (TJx145de a).2.1 ≠ (TJx145de b).2.1 := by decide +kernel
theorem tyJx145de_ok : ∀ k, k < 0 → parseFieldDescriptor (TJx145de k).2.2.1 = some (tyJx145de k) := by decide +kernel
def RJx8e188 : String := "java/lang/Cloneable"
def TJx8e188 : u_T := fun k => match k with
  | _ => ("", "", "", false)
def tyJx8e188 : Nat → FieldType := fun k => match k with
  | _ => .int
abbrev wsJx8e1880 : List Cond := u_ws RJx8e188 TJx8e188 0
theorem nmJx8e188 : ∀ a, a < 0 → ∀ b, b < 0 → a ≠ b → (TJx8e188 a).2.1 ≠ (TJx8e188 b).2.1 := by decide +kernel
theorem tyJx8e188_ok : ∀ k, k < 0 → parseFieldDescriptor (TJx8e188 k).2.2.1 = some (tyJx8e188 k) := by decide +kernel
def RJxab1ab : String := "java/lang/Iterable"
def TJxab1ab : u_T := fun k => match k with
  | _ => ("", "", "", false)
def tyJxab1ab : Nat → FieldType := fun k => match k with
  | _ => .int
abbrev wsJxab1ab0 : List Cond := u_ws RJxab1ab TJxab1ab 0
theorem nmJxab1ab : ∀ a, a < 0 → ∀ b, b < 0 → a ≠ b → (TJxab1ab a).2.1 ≠ (TJxab1ab b).2.1 := by decide +kernel
theorem tyJxab1ab_ok : ∀ k, k < 0 → parseFieldDescriptor (TJxab1ab k).2.2.1 = some (tyJxab1ab k) := by decide +kernel
def RJ9 : String := "java/lang/Math"
def TJ9 : u_T := fun k => match k with
  | _ => ("", "", "", false)
def tyJ9 : Nat → FieldType := fun k => match k with
  | _ => .int
abbrev wsJ90 : List Cond := u_ws RJ9 TJ9 0
theorem nmJ9 : ∀ a, a < 0 → ∀ b, b < 0 → a ≠ b → (TJ9 a).2.1 ≠ (TJ9 b).2.1 := by decide +kernel
theorem tyJ9_ok : ∀ k, k < 0 → parseFieldDescriptor (TJ9 k).2.2.1 = some (tyJ9 k) := by decide +kernel
abbrev cJ9_max_7cf53 : ByteArray := prog_15_method_65_code
def yJ9_max_7cf53 : MethodName := ⟨RJ9, "max", "(II)I"⟩
abbrev cJ9_min_7cf53 : ByteArray := prog_15_method_69_code
def yJ9_min_7cf53 : MethodName := ⟨RJ9, "min", "(II)I"⟩
def RJ0 : String := "java/lang/String"
def TJ0 : u_T := fun k => match k with
  | _ => ("", "", "", false)
def tyJ0 : Nat → FieldType := fun k => match k with
  | _ => .int
abbrev wsJ00 : List Cond := u_ws RJ0 TJ0 0
theorem nmJ0 : ∀ a, a < 0 → ∀ b, b < 0 → a ≠ b → (TJ0 a).2.1 ≠ (TJ0 b).2.1 := by decide +kernel
theorem tyJ0_ok : ∀ k, k < 0 → parseFieldDescriptor (TJ0 k).2.2.1 = some (tyJ0 k) := by decide +kernel
def RJ10 : String := "java/lang/System"
def TJ10 : u_T := fun k => match k with
  | _ => ("", "", "", false)
def tyJ10 : Nat → FieldType := fun k => match k with
  | _ => .int
abbrev wsJ100 : List Cond := u_ws RJ10 TJ10 0
theorem nmJ10 : ∀ a, a < 0 → ∀ b, b < 0 → a ≠ b → (TJ10 a).2.1 ≠ (TJ10 b).2.1 := by decide +kernel
theorem tyJ10_ok : ∀ k, k < 0 → parseFieldDescriptor (TJ10 k).2.2.1 = some (tyJ10 k) := by decide +kernel
def RJxa1e45 : String := "java/util/AbstractCollection"
def TJxa1e45 : u_T := fun k => match k with
  | _ => ("", "", "", false)
def tyJxa1e45 : Nat → FieldType := fun k => match k with
  | _ => .int
abbrev wsJxa1e450 : List Cond := u_ws RJxa1e45 TJxa1e45 0
theorem nmJxa1e45 : ∀ a, a < 0 → ∀ b, b < 0 → a ≠ b → (TJxa1e45 a).2.1 ≠ (TJxa1e45 b).2.1 := by decide +kernel
theorem tyJxa1e45_ok : ∀ k, k < 0 → parseFieldDescriptor (TJxa1e45 k).2.2.1 = some (tyJxa1e45 k) := by decide +kernel
abbrev cJxa1e45_init_da8c8 : ByteArray := prog_20_method_1_code
def yJxa1e45_init_da8c8 : MethodName := ⟨RJxa1e45, "<init>", "()V"⟩
def RJxc12de : String := "java/util/AbstractList"
def TJxc12de : u_T := fun k => match k with
  | _ => ("", "", "", false)
def tyJxc12de : Nat → FieldType := fun k => match k with
  | _ => .int
abbrev wsJxc12de0 : List Cond := u_ws RJxc12de TJxc12de 0
theorem nmJxc12de : ∀ a, a < 0 → ∀ b, b < 0 → a ≠ b → (TJxc12de a).2.1 ≠ (TJxc12de b).2.1 := by decide +kernel
theorem tyJxc12de_ok : ∀ k, k < 0 → parseFieldDescriptor (TJxc12de k).2.2.1 = some (tyJxc12de k) := by decide +kernel
abbrev cJxc12de_init_da8c8 : ByteArray := prog_21_method_1_code
def yJxc12de_init_da8c8 : MethodName := ⟨RJxc12de, "<init>", "()V"⟩
def RJx4a65c : String := "java/util/ArrayList"
def TJx4a65c : u_T := fun k => match k with
  | 0 => ("java/util/AbstractList", "modCount", "I", false)
  | 1 => ("java/util/ArrayList", "elementData", "[Ljava/lang/Object;", false)
  | _ => ("java/util/ArrayList", "size", "I", false)
def tyJx4a65c : Nat → FieldType := fun k => match k with
  | 0 => .int
  | 1 => .array (.object "java/lang/Object")
  | _ => .int
abbrev wsJx4a65c0 : List Cond := u_ws RJx4a65c TJx4a65c 3
theorem nmJx4a65c : ∀ a, a < 3 → ∀ b, b < 3 → a ≠ b → (TJx4a65c a).2.1 ≠ (TJx4a65c b).2.1 := by decide +kernel
theorem tyJx4a65c_ok : ∀ k, k < 3 → parseFieldDescriptor (TJx4a65c k).2.2.1 = some (tyJx4a65c k) := by decide +kernel
abbrev cJx4a65c_init_da8c8 : ByteArray := prog_22_method_2_code
def yJx4a65c_init_da8c8 : MethodName := ⟨RJx4a65c, "<init>", "()V"⟩
abbrev cJx4a65c_grow_92f84 : ByteArray := prog_22_method_6_code
def yJx4a65c_grow_92f84 : MethodName := ⟨RJx4a65c, "grow", "(I)[Ljava/lang/Object;"⟩
abbrev cJx4a65c_grow_d5877 : ByteArray := prog_22_method_7_code
def yJx4a65c_grow_d5877 : MethodName := ⟨RJx4a65c, "grow", "()[Ljava/lang/Object;"⟩
abbrev cJx4a65c_size_8abf5 : ByteArray := prog_22_method_8_code
def yJx4a65c_size_8abf5 : MethodName := ⟨RJx4a65c, "size", "()I"⟩
abbrev cJx4a65c_elementData_915e3 : ByteArray := prog_22_method_18_code
def yJx4a65c_elementData_915e3 : MethodName := ⟨RJx4a65c, "elementData", "(I)Ljava/lang/Object;"⟩
abbrev cJx4a65c_get_915e3 : ByteArray := prog_22_method_20_code
def yJx4a65c_get_915e3 : MethodName := ⟨RJx4a65c, "get", "(I)Ljava/lang/Object;"⟩
abbrev cJx4a65c_add_72be8 : ByteArray := prog_22_method_24_code
def yJx4a65c_add_72be8 : MethodName := ⟨RJx4a65c, "add", "(Ljava/lang/Object;[Ljava/lang/Object;I)V"⟩
abbrev cJx4a65c_add_9ea2d : ByteArray := prog_22_method_25_code
def yJx4a65c_add_9ea2d : MethodName := ⟨RJx4a65c, "add", "(Ljava/lang/Object;)Z"⟩
abbrev cJx4a65c_remove_915e3 : ByteArray := prog_22_method_29_code
def yJx4a65c_remove_915e3 : MethodName := ⟨RJx4a65c, "remove", "(I)Ljava/lang/Object;"⟩
abbrev cJx4a65c_fastRemove_b59b0 : ByteArray := prog_22_method_39_code
def yJx4a65c_fastRemove_b59b0 : MethodName := ⟨RJx4a65c, "fastRemove", "([Ljava/lang/Object;I)V"⟩
def RJ7 : String := "java/util/Arrays"
def TJ7 : u_T := fun k => match k with
  | _ => ("", "", "", false)
def tyJ7 : Nat → FieldType := fun k => match k with
  | _ => .int
abbrev wsJ70 : List Cond := u_ws RJ7 TJ7 0
theorem nmJ7 : ∀ a, a < 0 → ∀ b, b < 0 → a ≠ b → (TJ7 a).2.1 ≠ (TJ7 b).2.1 := by decide +kernel
theorem tyJ7_ok : ∀ k, k < 0 → parseFieldDescriptor (TJ7 k).2.2.1 = some (tyJ7 k) := by decide +kernel
abbrev cJ7_fill_53178 : ByteArray := prog_23_method_103_code
def yJ7_fill_53178 : MethodName := ⟨RJ7, "fill", "([II)V"⟩
abbrev cJ7_copyOf_1904c : ByteArray := prog_23_method_119_code
def yJ7_copyOf_1904c : MethodName := ⟨RJ7, "copyOf", "([Ljava/lang/Object;I)[Ljava/lang/Object;"⟩
abbrev cJ7_copyOf_6403c : ByteArray := prog_23_method_120_code
def yJ7_copyOf_6403c : MethodName := ⟨RJ7, "copyOf", "([Ljava/lang/Object;ILjava/lang/Class;)[Ljava/lang/Object;"⟩
def RJx5ef63 : String := "java/util/Collection"
def TJx5ef63 : u_T := fun k => match k with
  | _ => ("", "", "", false)
def tyJx5ef63 : Nat → FieldType := fun k => match k with
  | _ => .int
abbrev wsJx5ef630 : List Cond := u_ws RJx5ef63 TJx5ef63 0
theorem nmJx5ef63 : ∀ a, a < 0 → ∀ b, b < 0 → a ≠ b → (TJx5ef63 a).2.1 ≠ (TJx5ef63 b).2.1 := by decide +kernel
theorem tyJx5ef63_ok : ∀ k, k < 0 → parseFieldDescriptor (TJx5ef63 k).2.2.1 = some (tyJx5ef63 k) := by decide +kernel
def RJxbd725 : String := "java/util/List"
def TJxbd725 : u_T := fun k => match k with
  | _ => ("", "", "", false)
def tyJxbd725 : Nat → FieldType := fun k => match k with
  | _ => .int
abbrev wsJxbd7250 : List Cond := u_ws RJxbd725 TJxbd725 0
theorem nmJxbd725 : ∀ a, a < 0 → ∀ b, b < 0 → a ≠ b → (TJxbd725 a).2.1 ≠ (TJxbd725 b).2.1 := by decide +kernel
theorem tyJxbd725_ok : ∀ k, k < 0 → parseFieldDescriptor (TJxbd725 k).2.2.1 = some (tyJxbd725 k) := by decide +kernel
def RJ15 : String := "java/util/Objects"
def TJ15 : u_T := fun k => match k with
  | _ => ("", "", "", false)
def tyJ15 : Nat → FieldType := fun k => match k with
  | _ => .int
abbrev wsJ150 : List Cond := u_ws RJ15 TJ15 0
theorem nmJ15 : ∀ a, a < 0 → ∀ b, b < 0 → a ≠ b → (TJ15 a).2.1 ≠ (TJ15 b).2.1 := by decide +kernel
theorem tyJ15_ok : ∀ k, k < 0 → parseFieldDescriptor (TJ15 k).2.2.1 = some (tyJ15 k) := by decide +kernel
abbrev cJ15_checkIndex_7cf53 : ByteArray := prog_26_method_17_code
def yJ15_checkIndex_7cf53 : MethodName := ⟨RJ15, "checkIndex", "(II)I"⟩
def RJxf0a74 : String := "java/util/RandomAccess"
def TJxf0a74 : u_T := fun k => match k with
  | _ => ("", "", "", false)
def tyJxf0a74 : Nat → FieldType := fun k => match k with
  | _ => .int
abbrev wsJxf0a740 : List Cond := u_ws RJxf0a74 TJxf0a74 0
theorem nmJxf0a74 : ∀ a, a < 0 → ∀ b, b < 0 → a ≠ b → (TJxf0a74 a).2.1 ≠ (TJxf0a74 b).2.1 := by decide +kernel
theorem tyJxf0a74_ok : ∀ k, k < 0 → parseFieldDescriptor (TJxf0a74 k).2.2.1 = some (tyJxf0a74 k) := by decide +kernel
def RJxa66e6 : String := "java/util/SequencedCollection"
def TJxa66e6 : u_T := fun k => match k with
  | _ => ("", "", "", false)
def tyJxa66e6 : Nat → FieldType := fun k => match k with
  | _ => .int
abbrev wsJxa66e60 : List Cond := u_ws RJxa66e6 TJxa66e6 0
theorem nmJxa66e6 : ∀ a, a < 0 → ∀ b, b < 0 → a ≠ b → (TJxa66e6 a).2.1 ≠ (TJxa66e6 b).2.1 := by decide +kernel
theorem tyJxa66e6_ok : ∀ k, k < 0 → parseFieldDescriptor (TJxa66e6 k).2.2.1 = some (tyJxa66e6 k) := by decide +kernel
def RJ8 : String := "jdk/internal/util/ArraysSupport"
def TJ8 : u_T := fun k => match k with
  | _ => ("", "", "", false)
def tyJ8 : Nat → FieldType := fun k => match k with
  | _ => .int
abbrev wsJ80 : List Cond := u_ws RJ8 TJ8 0
theorem nmJ8 : ∀ a, a < 0 → ∀ b, b < 0 → a ≠ b → (TJ8 a).2.1 ≠ (TJ8 b).2.1 := by decide +kernel
theorem tyJ8_ok : ∀ k, k < 0 → parseFieldDescriptor (TJ8 k).2.2.1 = some (tyJ8 k) := by decide +kernel
abbrev cJ8_newLength_cabcc : ByteArray := prog_29_method_27_code
def yJ8_newLength_cabcc : MethodName := ⟨RJ8, "newLength", "(III)I"⟩
abbrev cJ8_hugeLength_7cf53 : ByteArray := prog_29_method_28_code
def yJ8_hugeLength_7cf53 : MethodName := ⟨RJ8, "hugeLength", "(II)I"⟩
def RJ3 : String := "jdk/internal/util/Preconditions"
def TJ3 : u_T := fun k => match k with
  | _ => ("", "", "", false)
def tyJ3 : Nat → FieldType := fun k => match k with
  | _ => .int
abbrev wsJ30 : List Cond := u_ws RJ3 TJ3 0
theorem nmJ3 : ∀ a, a < 0 → ∀ b, b < 0 → a ≠ b → (TJ3 a).2.1 ≠ (TJ3 b).2.1 := by decide +kernel
theorem tyJ3_ok : ∀ k, k < 0 → parseFieldDescriptor (TJ3 k).2.2.1 = some (tyJ3 k) := by decide +kernel
abbrev cJ3_checkIndex_8e157 : ByteArray := prog_30_method_11_code
def yJ3_checkIndex_8e157 : MethodName := ⟨RJ3, "checkIndex", "(IILjava/util/function/BiFunction;)I"⟩
def RL : String := "MarketAwningsLaw"
abbrev cL_hang : ByteArray := method_3_code
def yL_hang : MethodName := ⟨RL, "hang", "(LMarketAwnings;IIIIII[J)I"⟩
abbrev cL_roll : ByteArray := method_4_code
def yL_roll : MethodName := ⟨RL, "roll", "(LMarketAwnings;I[J)I"⟩
abbrev cL_move : ByteArray := method_5_code
def yL_move : MethodName := ⟨RL, "move", "(LMarketAwnings;III[J)I"⟩
abbrev cL_take : ByteArray := method_6_code
def yL_take : MethodName := ⟨RL, "take", "(LMarketAwnings;I[J)I"⟩
abbrev cL_stall : ByteArray := method_7_code
def yL_stall : MethodName := ⟨RL, "stall", "(LMarketAwnings;II[J)I"⟩
abbrev cL_rain : ByteArray := method_8_code
def yL_rain : MethodName := ⟨RL, "rain", "(LMarketAwnings;I[J)I"⟩
abbrev cL_about : ByteArray := method_9_code
def yL_about : MethodName := ⟨RL, "about", "(LMarketAwnings;II[J)I"⟩
abbrev cL_cell : ByteArray := method_10_code
def yL_cell : MethodName := ⟨RL, "cell", "(LMarketAwnings;III[J)I"⟩
abbrev cL_cord : ByteArray := method_11_code
def yL_cord : MethodName := ⟨RL, "cord", "(LMarketAwnings;II[J)I"⟩
abbrev cL_told : ByteArray := method_12_code
def yL_told : MethodName := ⟨RL, "told", "(LMarketAwnings;II[J)I"⟩
abbrev cL_share : ByteArray := method_13_code
def yL_share : MethodName := ⟨RL, "share", "(LMarketAwnings;II[J)I"⟩
abbrev cL_count : ByteArray := method_14_code
def yL_count : MethodName := ⟨RL, "count", "(LMarketAwnings;I[J)I"⟩
abbrev cL_would : ByteArray := method_15_code
def yL_would : MethodName := ⟨RL, "would", "(LMarketAwnings;II[J)I"⟩
abbrev cL_best : ByteArray := method_16_code
def yL_best : MethodName := ⟨RL, "best", "(LMarketAwnings;III[J)I"⟩
abbrev cL_law : ByteArray := code
def yL_law : MethodName := ⟨RL, "law", "([I)Z"⟩
def wsL_law0_r1 : List Cond := [Cond.classLink RL 8 RX4, Cond.instantiable RX4 7, Cond.initialized RX4, Cond.classLink RL 63 RX5, Cond.instantiable RX5 11, Cond.initialized RX5, Cond.arrayClass .long, Cond.methodLink RL 62 yX4_init, Cond.instanceMethod yX4_init, Cond.code yX4_init cX4_init 1 none, Cond.methodLink RX4 3 objectInit, Cond.instanceMethod objectInit, Cond.code objectInit ⟨#[0xb1]⟩ 1 none, Cond.classLink RX4 9 RX1, Cond.instantiable RX1 5, Cond.initialized RX1, Cond.fieldLink RX4 12 "MarketAwnings" "canopy" "LMarketAwnings$Canopy;", Cond.classLink RX4 16 RX2, Cond.instantiable RX2 5, Cond.initialized RX2, Cond.fieldLink RX4 21 "MarketAwnings" "shower" "LMarketAwnings$Shower;", Cond.classLink RX4 25 RJx4a65c, Cond.instantiable RJx4a65c 3, Cond.initialized RJx4a65c]
def wsL_law0_r2 : List Cond := [Cond.fieldLink RX4 28 "MarketAwnings" "stalls" "Ljava/util/ArrayList;", Cond.arrayClass .int, Cond.fieldLink RX4 32 "MarketAwnings" "ground" "[I", Cond.fieldLink RX4 36 "MarketAwnings" "hours" "I", Cond.fieldLink RX4 40 "MarketAwnings" "groundDrops" "I", Cond.fieldLink RX4 43 "MarketAwnings" "offDrops" "I", Cond.methodLink RX4 11 yX1_init, Cond.instanceMethod yX1_init, Cond.code yX1_init cX1_init 1 none, Cond.methodLink RX1 3 objectInit, Cond.classLink RX1 9 RJx4a65c, Cond.fieldLink RX1 12 "MarketAwnings$Canopy" "awnings" "Ljava/util/ArrayList;", Cond.fieldLink RX1 18 "MarketAwnings$Canopy" "layers" "[I", Cond.fieldLink RX1 22 "MarketAwnings$Canopy" "reached" "[I", Cond.fieldLink RX1 25 "MarketAwnings$Canopy" "queue" "[I", Cond.fieldLink RX1 28 "MarketAwnings$Canopy" "queued" "I", Cond.methodLink RX1 11 yJx4a65c_init_da8c8, Cond.instanceMethod yJx4a65c_init_da8c8, Cond.code yJx4a65c_init_da8c8 cJx4a65c_init_da8c8 1 none, Cond.fieldLink RJx4a65c 39 "java/util/ArrayList" "DEFAULTCAPACITY_EMPTY_ELEMENTDATA" "[Ljava/lang/Object;", Cond.fieldLink RJx4a65c 9 "java/util/ArrayList" "elementData" "[Ljava/lang/Object;", Cond.methodLink RJx4a65c 1 yJxc12de_init_da8c8, Cond.instanceMethod yJxc12de_init_da8c8, Cond.initialized RJxc12de]
def wsL_law0_r3 : List Cond := [Cond.code yJxc12de_init_da8c8 cJxc12de_init_da8c8 1 none, Cond.fieldLink RJxc12de 7 "java/util/AbstractList" "modCount" "I", Cond.methodLink RJxc12de 1 yJxa1e45_init_da8c8, Cond.instanceMethod yJxa1e45_init_da8c8, Cond.initialized RJxa1e45, Cond.code yJxa1e45_init_da8c8 cJxa1e45_init_da8c8 1 none, Cond.methodLink RJxa1e45 1 objectInit, Cond.methodLink RX4 18 yX2_init, Cond.instanceMethod yX2_init, Cond.code yX2_init cX2_init 2 none, Cond.methodLink RX2 3 objectInit, Cond.fieldLink RX2 9 "MarketAwnings$Shower" "canopy" "LMarketAwnings$Canopy;", Cond.fieldLink RX2 15 "MarketAwnings$Shower" "fallen" "[I", Cond.fieldLink RX2 19 "MarketAwnings$Shower" "caught" "[I", Cond.fieldLink RX2 22 "MarketAwnings$Shower" "onGround" "I", Cond.fieldLink RX2 26 "MarketAwnings$Shower" "ranOff" "I", Cond.methodLink RX4 27 yJx4a65c_init_da8c8, Cond.methodLink RL 65 yX5_init, Cond.instanceMethod yX5_init, Cond.code yX5_init cX5_init 1 none, Cond.methodLink RX5 1 objectInit, Cond.fieldLink RX5 9 "MarketAwningsModel" "sheet" "[I", Cond.fieldLink RX5 13 "MarketAwningsModel" "at" "[I", Cond.fieldLink RX5 16 "MarketAwningsModel" "had" "[I"]
def wsL_law0_r4 : List Cond := [Cond.fieldLink RX5 19 "MarketAwningsModel" "ground" "[I", Cond.fieldLink RX5 22 "MarketAwningsModel" "fell" "[I", Cond.fieldLink RX5 25 "MarketAwningsModel" "load" "[I", Cond.methodLink RL 66 yL_hang, Cond.static yL_hang, Cond.initialized RL, Cond.codeWith yL_hang cL_hang 9 (some .int) [(0, 18, 21, 13), (0, 18, 25, 15), (0, 18, 29, 17)], Cond.classLink RL 13 "java/lang/IllegalArgumentException", Cond.classLink RL 15 "java/lang/IndexOutOfBoundsException", Cond.classLink RL 17 "java/lang/IllegalStateException", Cond.methodLink RL 7 yX4_hang, Cond.instanceMethod yX4_hang, Cond.selects RX4 yX4_hang yX4_hang, Cond.code yX4_hang cX4_hang 7 (some .int), Cond.classLink RX4 50 "java/lang/IllegalArgumentException", Cond.initialized "java/lang/IllegalArgumentException", Cond.classLink RX4 67 "java/lang/IllegalStateException", Cond.initialized "java/lang/IllegalStateException", Cond.classLink RX4 72 RX0, Cond.instantiable RX0 8, Cond.initialized RX0, Cond.methodLink RX4 46 yX4_requireExtent, Cond.static yX4_requireExtent, Cond.code yX4_requireExtent cX4_requireExtent 2 none]
def wsL_law0_r5 : List Cond := [Cond.methodLink RX4 59 yX4_requireRoomInSquare, Cond.static yX4_requireRoomInSquare, Cond.code yX4_requireRoomInSquare cX4_requireRoomInSquare 4 none, Cond.classLink RX4 178 "java/lang/IndexOutOfBoundsException", Cond.initialized "java/lang/IndexOutOfBoundsException", Cond.methodLink RX4 63 yX1_size, Cond.instanceMethod yX1_size, Cond.selects RX1 yX1_size yX1_size, Cond.code yX1_size cX1_size 1 (some .int), Cond.methodLink RX1 32 yJx4a65c_size_8abf5, Cond.instanceMethod yJx4a65c_size_8abf5, Cond.selects RJx4a65c yJx4a65c_size_8abf5 yJx4a65c_size_8abf5, Cond.code yJx4a65c_size_8abf5 cJx4a65c_size_8abf5 1 (some .int), Cond.fieldLink RJx4a65c 48 "java/util/ArrayList" "size" "I", Cond.methodLink RX4 74 yX0_init, Cond.instanceMethod yX0_init, Cond.code yX0_init cX0_init 7 none, Cond.methodLink RX0 3 objectInit, Cond.fieldLink RX0 9 "MarketAwnings$Awning" "x" "I", Cond.fieldLink RX0 15 "MarketAwnings$Awning" "y" "I", Cond.fieldLink RX0 18 "MarketAwnings$Awning" "w" "I", Cond.fieldLink RX0 21 "MarketAwnings$Awning" "h" "I", Cond.fieldLink RX0 24 "MarketAwnings$Awning" "level" "I", Cond.fieldLink RX0 27 "MarketAwnings$Awning" "side" "I"]
def wsL_law0_r6 : List Cond := [Cond.fieldLink RX0 30 "MarketAwnings$Awning" "out" "Z", Cond.fieldLink RX0 34 "MarketAwnings$Awning" "dripped" "I", Cond.methodLink RX4 77 yX1_append, Cond.instanceMethod yX1_append, Cond.selects RX1 yX1_append yX1_append, Cond.code yX1_append cX1_append 2 none, Cond.methodLink RX1 53 yJx4a65c_add_9ea2d, Cond.instanceMethod yJx4a65c_add_9ea2d, Cond.selects RJx4a65c yJx4a65c_add_9ea2d yJx4a65c_add_9ea2d, Cond.code yJx4a65c_add_9ea2d cJx4a65c_add_9ea2d 2 (some .boolean), Cond.fieldLink RJx4a65c 63 "java/util/ArrayList" "modCount" "I", Cond.sameField "java/util/ArrayList" "java/util/AbstractList" "modCount" "I", Cond.methodLink RJx4a65c 131 yJx4a65c_add_72be8, Cond.instanceMethod yJx4a65c_add_72be8, Cond.selects RJx4a65c yJx4a65c_add_72be8 yJx4a65c_add_72be8, Cond.code yJx4a65c_add_72be8 cJx4a65c_add_72be8 4 none, Cond.methodLink RJx4a65c 129 yJx4a65c_grow_d5877, Cond.instanceMethod yJx4a65c_grow_d5877, Cond.selects RJx4a65c yJx4a65c_grow_d5877 yJx4a65c_grow_d5877, Cond.code yJx4a65c_grow_d5877 cJx4a65c_grow_d5877 1 (some (.array (.object "java/lang/Object"))), Cond.methodLink RJx4a65c 69 yJx4a65c_grow_92f84, Cond.instanceMethod yJx4a65c_grow_92f84, Cond.selects RJx4a65c yJx4a65c_grow_92f84 yJx4a65c_grow_92f84, Cond.code yJx4a65c_grow_92f84 cJx4a65c_grow_92f84 4 (some (.array (.object "java/lang/Object")))]
def wsL_law0_r7 : List Cond := [Cond.methodLink RJx4a65c 79 Lib.Math.max.name, Cond.static Lib.Math.max.name, Cond.initialized "java/lang/Math", Cond.code Lib.Math.max.name Lib.Math.max.code 2 (some .int), Cond.classLink RJx4a65c 7 "java/lang/Object", Cond.methodLink RJx4a65c 73 yJ8_newLength_cabcc, Cond.static yJ8_newLength_cabcc, Cond.initialized RJ8, Cond.code yJ8_newLength_cabcc cJ8_newLength_cabcc 4 (some .int), Cond.methodLink RJ8 194 Lib.Math.max.name, Cond.constant RJ8 200 (2147483639), Cond.methodLink RJ8 201 yJ8_hugeLength_7cf53, Cond.static yJ8_hugeLength_7cf53, Cond.code yJ8_hugeLength_7cf53 cJ8_hugeLength_7cf53 3 (some .int), Cond.methodLink RJx4a65c 66 yJ7_copyOf_1904c, Cond.static yJ7_copyOf_1904c, Cond.initialized RJ7, Cond.code yJ7_copyOf_1904c cJ7_copyOf_1904c 2 (some (.array (.object "java/lang/Object"))), Cond.methodLink RJ7 86 ⟨"java/lang/Object", "getClass", "()Ljava/lang/Class;"⟩, Cond.selects "[Ljava/lang/Object;" ⟨"java/lang/Object", "getClass", "()Ljava/lang/Class;"⟩ ⟨"java/lang/Object", "getClass", "()Ljava/lang/Class;"⟩, Cond.instanceMethod ⟨"java/lang/Object", "getClass", "()Ljava/lang/Class;"⟩, Cond.native ⟨"java/lang/Object", "getClass", "()Ljava/lang/Class;"⟩, Cond.methodLink RJ7 300 yJ7_copyOf_6403c, Cond.static yJ7_copyOf_6403c]
def wsL_law0_r8 : List Cond := [Cond.code yJ7_copyOf_6403c cJ7_copyOf_6403c 4 (some (.array (.object "java/lang/Object"))), Cond.classLink RJ7 110 "[Ljava/lang/Object;", Cond.classLink RJ7 2 "java/lang/Object", Cond.methodLink RJ7 304 Lib.Math.min.name, Cond.static Lib.Math.min.name, Cond.code Lib.Math.min.name Lib.Math.min.code 2 (some .int), Cond.methodLink RJ7 150 arraycopyName, Cond.native arraycopyName, Cond.static arraycopyName, Cond.initialized "java/lang/System", Cond.methodLink RX1 57 yX1_layOut, Cond.instanceMethod yX1_layOut, Cond.selects RX1 yX1_layOut yX1_layOut, Cond.code yX1_layOut cX1_layOut 2 none, Cond.classLink RX1 40 "MarketAwnings$Awning", Cond.fieldLink RX1 42 "MarketAwnings$Awning" "out" "Z", Cond.methodLink RX1 63 yJ7_fill_53178, Cond.static yJ7_fill_53178, Cond.code yJ7_fill_53178 cJ7_fill_53178 4 none, Cond.methodLink RX1 36 yJx4a65c_get_915e3, Cond.instanceMethod yJx4a65c_get_915e3, Cond.selects RJx4a65c yJx4a65c_get_915e3 yJx4a65c_get_915e3, Cond.code yJx4a65c_get_915e3 cJx4a65c_get_915e3 2 (some (.object "java/lang/Object")), Cond.methodLink RJx4a65c 118 yJ15_checkIndex_7cf53]
def wsL_law0_r9 : List Cond := [Cond.static yJ15_checkIndex_7cf53, Cond.initialized RJ15, Cond.code yJ15_checkIndex_7cf53 cJ15_checkIndex_7cf53 2 (some .int), Cond.methodLink RJ15 105 yJ3_checkIndex_8e157, Cond.static yJ3_checkIndex_8e157, Cond.initialized RJ3, Cond.code yJ3_checkIndex_8e157 cJ3_checkIndex_8e157 3 (some .int), Cond.methodLink RJx4a65c 123 yJx4a65c_elementData_915e3, Cond.instanceMethod yJx4a65c_elementData_915e3, Cond.selects RJx4a65c yJx4a65c_elementData_915e3 yJx4a65c_elementData_915e3, Cond.code yJx4a65c_elementData_915e3 cJx4a65c_elementData_915e3 2 (some (.object "java/lang/Object")), Cond.methodLink RX1 69 yX1_layOver, Cond.instanceMethod yX1_layOver, Cond.selects RX1 yX1_layOver yX1_layOver, Cond.code yX1_layOver cX1_layOver 4 none, Cond.fieldLink RX1 73 "MarketAwnings$Awning" "y" "I", Cond.fieldLink RX1 76 "MarketAwnings$Awning" "h" "I", Cond.fieldLink RX1 79 "MarketAwnings$Awning" "x" "I", Cond.fieldLink RX1 82 "MarketAwnings$Awning" "w" "I", Cond.static yX4_isCell, Cond.code yX4_isCell cX4_isCell 2 (some .boolean), Cond.methodLink RL 71 yX5_hang, Cond.instanceMethod yX5_hang, Cond.selects RX5 yX5_hang yX5_hang]
def wsL_law0_r10 : List Cond := [Cond.code yX5_hang cX5_hang 8 (some .int), Cond.fieldLink RX5 28 "MarketAwningsModel" "thrown" "I", Cond.fieldLink RX5 36 "MarketAwningsModel" "awnings" "I", Cond.methodLink RX5 85 arraycopyName, Cond.methodLink RX5 32 yX5_isIn, Cond.static yX5_isIn, Cond.code yX5_isIn cX5_isIn 3 (some .boolean), Cond.methodLink RX5 78 yX5_no, Cond.instanceMethod yX5_no, Cond.selects RX5 yX5_no yX5_no, Cond.code yX5_no cX5_no 2 (some .int), Cond.methodLink RX5 81 yX5_fits, Cond.static yX5_fits, Cond.code yX5_fits cX5_fits 4 (some .boolean), Cond.methodLink RL 72 yX5_thrown, Cond.instanceMethod yX5_thrown, Cond.selects RX5 yX5_thrown yX5_thrown, Cond.code yX5_thrown cX5_thrown 1 (some .int), Cond.methodLink RL 76 yL_roll, Cond.static yL_roll, Cond.codeWith yL_roll cL_roll 4 (some .int) [(0, 16, 19, 15)], Cond.methodLink RL 19 yX4_roll, Cond.instanceMethod yX4_roll, Cond.selects RX4 yX4_roll yX4_roll]
def wsL_law0_r11 : List Cond := [Cond.code yX4_roll cX4_roll 3 (some .boolean), Cond.fieldLink RX4 85 "MarketAwnings$Awning" "out" "Z", Cond.methodLink RX4 81 yX1_numbered, Cond.instanceMethod yX1_numbered, Cond.selects RX1 yX1_numbered yX1_numbered, Cond.code yX1_numbered cX1_numbered 2 (some (.object "MarketAwnings$Awning")), Cond.classLink RX1 46 "java/lang/IndexOutOfBoundsException", Cond.methodLink RX4 89 yX1_layOut, Cond.methodLink RL 79 yX5_roll, Cond.instanceMethod yX5_roll, Cond.selects RX5 yX5_roll yX5_roll, Cond.code yX5_roll cX5_roll 2 (some .boolean), Cond.methodLink RX5 91 yX5_isAwning, Cond.instanceMethod yX5_isAwning, Cond.selects RX5 yX5_isAwning yX5_isAwning, Cond.code yX5_isAwning cX5_isAwning 2 (some .boolean), Cond.methodLink RX5 42 yX5_of, Cond.instanceMethod yX5_of, Cond.selects RX5 yX5_of yX5_of, Cond.code yX5_of cX5_of 3 (some .int), Cond.methodLink RX5 46 yX5_isOut, Cond.instanceMethod yX5_isOut, Cond.selects RX5 yX5_isOut yX5_isOut, Cond.code yX5_isOut cX5_isOut 2 (some .boolean)]
def wsL_law0_r12 : List Cond := [Cond.methodLink RL 80 yL_move, Cond.static yL_move, Cond.codeWith yL_move cL_move 6 (some .int) [(0, 12, 15, 15)], Cond.methodLink RL 23 yX4_move, Cond.instanceMethod yX4_move, Cond.selects RX4 yX4_move yX4_move, Cond.code yX4_move cX4_move 5 (some .int), Cond.fieldLink RX4 92 "MarketAwnings$Awning" "w" "I", Cond.fieldLink RX4 95 "MarketAwnings$Awning" "h" "I", Cond.fieldLink RX4 98 "MarketAwnings$Awning" "x" "I", Cond.fieldLink RX4 101 "MarketAwnings$Awning" "y" "I", Cond.methodLink RX4 104 yX1_covered, Cond.instanceMethod yX1_covered, Cond.selects RX1 yX1_covered yX1_covered, Cond.code yX1_covered cX1_covered 1 (some .int), Cond.methodLink RX1 95 yX1_cellsWithLayers, Cond.instanceMethod yX1_cellsWithLayers, Cond.selects RX1 yX1_cellsWithLayers yX1_cellsWithLayers, Cond.code yX1_cellsWithLayers cX1_cellsWithLayers 4 (some .int), Cond.methodLink RL 83 yX5_move, Cond.instanceMethod yX5_move, Cond.selects RX5 yX5_move yX5_move, Cond.code yX5_move cX5_move 4 (some .int), Cond.methodLink RX5 94 yX5_counted]
def wsL_law0_r13 : List Cond := [Cond.instanceMethod yX5_counted, Cond.selects RX5 yX5_counted yX5_counted, Cond.code yX5_counted cX5_counted 2 (some .int), Cond.fieldLink RX5 39 "MarketAwningsModel" "stalls" "I", Cond.fieldLink RX5 106 "MarketAwningsModel" "hours" "I", Cond.fieldLink RX5 103 "MarketAwningsModel" "ranOff" "I", Cond.methodLink RX5 153 yX5_out, Cond.instanceMethod yX5_out, Cond.selects RX5 yX5_out yX5_out, Cond.code yX5_out cX5_out 3 (some .int), Cond.methodLink RX5 157 yX5_outline, Cond.instanceMethod yX5_outline, Cond.selects RX5 yX5_outline yX5_outline, Cond.code yX5_outline cX5_outline 4 (some .int), Cond.methodLink RX5 129 yX5_covered_, Cond.instanceMethod yX5_covered_, Cond.selects RX5 yX5_covered_ yX5_covered_, Cond.code yX5_covered_ cX5_covered_ 2 (some .int), Cond.methodLink RX5 56 yX5_covered, Cond.instanceMethod yX5_covered, Cond.selects RX5 yX5_covered yX5_covered, Cond.code yX5_covered cX5_covered 5 (some .int), Cond.methodLink RX5 53 yX5_bits, Cond.instanceMethod yX5_bits]
def wsL_law0_r14 : List Cond := [Cond.selects RX5 yX5_bits yX5_bits, Cond.code yX5_bits cX5_bits 3 (some .int), Cond.methodLink RX5 50 yX5_rows, Cond.static yX5_rows, Cond.code yX5_rows cX5_rows 2 (some .int), Cond.methodLink RX5 109 yX5_many, Cond.static yX5_many, Cond.code yX5_many cX5_many 3 (some .int), Cond.methodLink RX5 160 yX5_parts, Cond.instanceMethod yX5_parts, Cond.selects RX5 yX5_parts yX5_parts, Cond.code yX5_parts cX5_parts 7 (some .int), Cond.methodLink RX5 149 yX5_spreads, Cond.static yX5_spreads, Cond.code yX5_spreads cX5_spreads 5 (some .boolean), Cond.methodLink RX5 163 yX5_open, Cond.instanceMethod yX5_open, Cond.selects RX5 yX5_open yX5_open, Cond.code yX5_open cX5_open 3 (some .int), Cond.methodLink RX5 146 yX5_stallTold, Cond.instanceMethod yX5_stallTold, Cond.selects RX5 yX5_stallTold yX5_stallTold, Cond.code yX5_stallTold cX5_stallTold 3 (some .int), Cond.methodLink RX5 140 yX5_got]
def wsL_law0_r15 : List Cond := [Cond.instanceMethod yX5_got, Cond.selects RX5 yX5_got yX5_got, Cond.code yX5_got cX5_got 2 (some .int), Cond.methodLink RX5 118 yX5_lying, Cond.instanceMethod yX5_lying, Cond.selects RX5 yX5_lying yX5_lying, Cond.code yX5_lying cX5_lying 5 (some .int), Cond.methodLink RX5 166 yX5_sumOf, Cond.instanceMethod yX5_sumOf, Cond.selects RX5 yX5_sumOf yX5_sumOf, Cond.code yX5_sumOf cX5_sumOf 5 (some .int), Cond.methodLink RL 84 yL_take, Cond.static yL_take, Cond.codeWith yL_take cL_take 4 (some .int) [(0, 9, 12, 15)], Cond.methodLink RL 27 yX4_take, Cond.instanceMethod yX4_take, Cond.selects RX4 yX4_take yX4_take, Cond.code yX4_take cX4_take 2 (some .int), Cond.methodLink RX4 107 yX1_drop, Cond.instanceMethod yX1_drop, Cond.selects RX1 yX1_drop yX1_drop, Cond.code yX1_drop cX1_drop 2 none, Cond.methodLink RX1 60 yJx4a65c_remove_915e3, Cond.instanceMethod yJx4a65c_remove_915e3]
def wsL_law0_r16 : List Cond := [Cond.selects RJx4a65c yJx4a65c_remove_915e3 yJx4a65c_remove_915e3, Cond.code yJx4a65c_remove_915e3 cJx4a65c_remove_915e3 4 (some (.object "java/lang/Object")), Cond.methodLink RJx4a65c 144 yJx4a65c_fastRemove_b59b0, Cond.instanceMethod yJx4a65c_fastRemove_b59b0, Cond.selects RJx4a65c yJx4a65c_fastRemove_b59b0 yJx4a65c_fastRemove_b59b0, Cond.code yJx4a65c_fastRemove_b59b0 cJx4a65c_fastRemove_b59b0 4 none, Cond.methodLink RJx4a65c 112 arraycopyName, Cond.methodLink RL 86 yX5_take, Cond.instanceMethod yX5_take, Cond.selects RX5 yX5_take yX5_take, Cond.code yX5_take cX5_take 3 (some .int), Cond.methodLink RL 87 yL_stall, Cond.static yL_stall, Cond.codeWith yL_stall cL_stall 5 (some .int) [(0, 10, 13, 15), (0, 10, 17, 17)], Cond.methodLink RL 31 yX4_stall, Cond.instanceMethod yX4_stall, Cond.selects RX4 yX4_stall yX4_stall, Cond.code yX4_stall cX4_stall 3 (some .int), Cond.classLink RX4 123 RX3, Cond.instantiable RX3 3, Cond.initialized RX3, Cond.methodLink RX4 111 yX4_requireCell, Cond.static yX4_requireCell, Cond.code yX4_requireCell cX4_requireCell 2 none]
def wsL_law0_r17 : List Cond := [Cond.methodLink RX4 264 yX4_isCell, Cond.methodLink RX4 114 yJx4a65c_size_8abf5, Cond.methodLink RX4 117 yX4_hasStallAt, Cond.instanceMethod yX4_hasStallAt, Cond.selects RX4 yX4_hasStallAt yX4_hasStallAt, Cond.code yX4_hasStallAt cX4_hasStallAt 5 (some .boolean), Cond.classLink RX4 123 "MarketAwnings$Stall", Cond.fieldLink RX4 199 "MarketAwnings$Stall" "x" "I", Cond.fieldLink RX4 200 "MarketAwnings$Stall" "y" "I", Cond.methodLink RX4 257 yJx4a65c_get_915e3, Cond.methodLink RX4 125 yX4_groundAt, Cond.instanceMethod yX4_groundAt, Cond.selects RX4 yX4_groundAt yX4_groundAt, Cond.code yX4_groundAt cX4_groundAt 3 (some .int), Cond.methodLink RX4 129 yX3_init, Cond.instanceMethod yX3_init, Cond.code yX3_init cX3_init 4 none, Cond.methodLink RX3 1 objectInit, Cond.fieldLink RX3 7 "MarketAwnings$Stall" "x" "I", Cond.fieldLink RX3 13 "MarketAwnings$Stall" "y" "I", Cond.fieldLink RX3 16 "MarketAwnings$Stall" "groundBefore" "I", Cond.methodLink RX4 132 yJx4a65c_add_9ea2d, Cond.methodLink RL 90 yX5_stall, Cond.instanceMethod yX5_stall]
def wsL_law0_r18 : List Cond := [Cond.selects RX5 yX5_stall yX5_stall, Cond.code yX5_stall cX5_stall 5 (some .int), Cond.methodLink RX5 97 yX5_isCell, Cond.static yX5_isCell, Cond.code yX5_isCell cX5_isCell 2 (some .boolean), Cond.methodLink RL 91 yL_rain, Cond.static yL_rain, Cond.codeWith yL_rain cL_rain 4 (some .int) [(0, 9, 12, 13)], Cond.methodLink RL 35 yX4_rain, Cond.instanceMethod yX4_rain, Cond.selects RX4 yX4_rain yX4_rain, Cond.code yX4_rain cX4_rain 4 (some .int), Cond.fieldLink RX4 145 "MarketAwnings$Awning" "dripped" "I", Cond.fieldLink RX4 152 "MarketAwnings$Shower" "onGround" "I", Cond.fieldLink RX4 155 "MarketAwnings$Shower" "ranOff" "I", Cond.methodLink RX4 136 yX4_requireDrops, Cond.static yX4_requireDrops, Cond.code yX4_requireDrops cX4_requireDrops 1 none, Cond.methodLink RX4 139 yX2_pour, Cond.instanceMethod yX2_pour, Cond.selects RX2 yX2_pour yX2_pour, Cond.code yX2_pour cX2_pour 4 none, Cond.methodLink RX2 29 yX2_dry, Cond.instanceMethod yX2_dry]
def wsL_law0_r19 : List Cond := [Cond.selects RX2 yX2_dry yX2_dry, Cond.code yX2_dry cX2_dry 1 none, Cond.methodLink RX2 44 yJ7_fill_53178, Cond.methodLink RX2 32 yX2_land, Cond.instanceMethod yX2_land, Cond.selects RX2 yX2_land yX2_land, Cond.code yX2_land cX2_land 6 none, Cond.methodLink RX2 86 yX1_highestBelow, Cond.instanceMethod yX1_highestBelow, Cond.selects RX1 yX1_highestBelow yX1_highestBelow, Cond.code yX1_highestBelow cX1_highestBelow 8 (some .int), Cond.fieldLink RX1 89 "MarketAwnings$Awning" "level" "I", Cond.methodLink RX1 92 yX0_covers, Cond.instanceMethod yX0_covers, Cond.selects RX0 yX0_covers yX0_covers, Cond.code yX0_covers cX0_covers 3 (some .boolean), Cond.methodLink RX2 36 yX2_dripFromLevel, Cond.instanceMethod yX2_dripFromLevel, Cond.selects RX2 yX2_dripFromLevel yX2_dripFromLevel, Cond.code yX2_dripFromLevel cX2_dripFromLevel 4 none, Cond.fieldLink RX2 60 "MarketAwnings$Awning" "out" "Z", Cond.fieldLink RX2 66 "MarketAwnings$Awning" "level" "I", Cond.methodLink RX2 50 yX1_size, Cond.methodLink RX2 56 yX1_numbered]
def wsL_law0_r20 : List Cond := [Cond.methodLink RX2 69 yX2_caughtBy, Cond.instanceMethod yX2_caughtBy, Cond.selects RX2 yX2_caughtBy yX2_caughtBy, Cond.code yX2_caughtBy cX2_caughtBy 2 (some .int), Cond.methodLink RX2 73 yX2_drip, Cond.instanceMethod yX2_drip, Cond.selects RX2 yX2_drip yX2_drip, Cond.code yX2_drip cX2_drip 8 none, Cond.methodLink RX2 77 yX0_cellsBeyond, Cond.instanceMethod yX0_cellsBeyond, Cond.selects RX0 yX0_cellsBeyond yX0_cellsBeyond, Cond.code yX0_cellsBeyond cX0_cellsBeyond 1 (some .int), Cond.methodLink RX0 37 yX0_dripsAlongRows, Cond.instanceMethod yX0_dripsAlongRows, Cond.selects RX0 yX0_dripsAlongRows yX0_dripsAlongRows, Cond.code yX0_dripsAlongRows cX0_dripsAlongRows 1 (some .boolean), Cond.methodLink RX2 80 yX0_columnBeyond, Cond.instanceMethod yX0_columnBeyond, Cond.selects RX0 yX0_columnBeyond yX0_columnBeyond, Cond.code yX0_columnBeyond cX0_columnBeyond 2 (some .int), Cond.methodLink RX2 83 yX0_rowBeyond, Cond.instanceMethod yX0_rowBeyond, Cond.selects RX0 yX0_rowBeyond yX0_rowBeyond, Cond.code yX0_rowBeyond cX0_rowBeyond 2 (some .int)]
def wsL_law0_r21 : List Cond := [Cond.methodLink RX4 142 yX2_fallenAt, Cond.instanceMethod yX2_fallenAt, Cond.selects RX2 yX2_fallenAt yX2_fallenAt, Cond.code yX2_fallenAt cX2_fallenAt 3 (some .int), Cond.methodLink RX4 148 yX2_caughtBy, Cond.methodLink RL 93 yX5_rain, Cond.instanceMethod yX5_rain, Cond.selects RX5 yX5_rain yX5_rain, Cond.code yX5_rain cX5_rain 4 (some .int), Cond.methodLink RX5 100 yX5_pour, Cond.instanceMethod yX5_pour, Cond.selects RX5 yX5_pour yX5_pour, Cond.code yX5_pour cX5_pour 4 (some .int), Cond.methodLink RX5 71 yX5_fall, Cond.instanceMethod yX5_fall, Cond.selects RX5 yX5_fall yX5_fall, Cond.code yX5_fall cX5_fall 6 none, Cond.methodLink RX5 67 yX5_highest, Cond.instanceMethod yX5_highest, Cond.selects RX5 yX5_highest yX5_highest, Cond.code yX5_highest cX5_highest 5 (some .int), Cond.methodLink RX5 63 yX5_below, Cond.instanceMethod yX5_below, Cond.selects RX5 yX5_below yX5_below]
def wsL_law0_r22 : List Cond := [Cond.code yX5_below cX5_below 4 (some .int), Cond.methodLink RX5 59 yX5_isHigher, Cond.instanceMethod yX5_isHigher, Cond.selects RX5 yX5_isHigher yX5_isHigher, Cond.code yX5_isHigher cX5_isHigher 3 (some .boolean), Cond.methodLink RX5 75 yX5_drip, Cond.instanceMethod yX5_drip, Cond.selects RX5 yX5_drip yX5_drip, Cond.code yX5_drip cX5_drip 8 (some .int), Cond.methodLink RL 94 yL_about, Cond.static yL_about, Cond.codeWith yL_about cL_about 5 (some .int) [(0, 10, 13, 15)], Cond.methodLink RL 38 yX4_about, Cond.instanceMethod yX4_about, Cond.selects RX4 yX4_about yX4_about, Cond.code yX4_about cX4_about 4 (some .int), Cond.fieldLink RX4 161 "MarketAwnings$Awning" "level" "I", Cond.fieldLink RX4 164 "MarketAwnings$Awning" "side" "I", Cond.methodLink RX4 158 yX4_requireWhat, Cond.static yX4_requireWhat, Cond.code yX4_requireWhat cX4_requireWhat 2 none, Cond.methodLink RX4 167 yX1_coveredOnlyBy, Cond.instanceMethod yX1_coveredOnlyBy, Cond.selects RX1 yX1_coveredOnlyBy yX1_coveredOnlyBy]
def wsL_law0_r23 : List Cond := [Cond.code yX1_coveredOnlyBy cX1_coveredOnlyBy 5 (some .int), Cond.methodLink RX1 99 yX1_layersAt, Cond.instanceMethod yX1_layersAt, Cond.selects RX1 yX1_layersAt yX1_layersAt, Cond.code yX1_layersAt cX1_layersAt 3 (some .int), Cond.methodLink RL 96 yX5_about, Cond.instanceMethod yX5_about, Cond.selects RX5 yX5_about yX5_about, Cond.code yX5_about cX5_about 3 (some .int), Cond.methodLink RX5 115 yX5_awningTold, Cond.instanceMethod yX5_awningTold, Cond.selects RX5 yX5_awningTold yX5_awningTold, Cond.code yX5_awningTold cX5_awningTold 3 (some .int), Cond.methodLink RX5 112 yX5_own, Cond.instanceMethod yX5_own, Cond.selects RX5 yX5_own yX5_own, Cond.code yX5_own cX5_own 4 (some .int), Cond.methodLink RL 97 yL_cell, Cond.static yL_cell, Cond.codeWith yL_cell cL_cell 6 (some .int) [(0, 12, 15, 15)], Cond.methodLink RL 41 yX4_cell, Cond.instanceMethod yX4_cell, Cond.selects RX4 yX4_cell yX4_cell, Cond.code yX4_cell cX4_cell 4 (some .int)]
def wsL_law0_r24 : List Cond := [Cond.methodLink RX4 171 yX1_layersAt, Cond.methodLink RX4 174 yX1_highestBelow, Cond.methodLink RL 99 yX5_cell, Cond.instanceMethod yX5_cell, Cond.selects RX5 yX5_cell yX5_cell, Cond.code yX5_cell cX5_cell 4 (some .int), Cond.methodLink RX5 121 yX5_cellTold, Cond.instanceMethod yX5_cellTold, Cond.selects RX5 yX5_cellTold yX5_cellTold, Cond.code yX5_cellTold cX5_cellTold 4 (some .int), Cond.methodLink RL 100 yL_cord, Cond.static yL_cord, Cond.codeWith yL_cord cL_cord 5 (some .int) [(0, 10, 13, 15)], Cond.methodLink RL 44 yX4_cord, Cond.instanceMethod yX4_cord, Cond.selects RX4 yX4_cord yX4_cord, Cond.code yX4_cord cX4_cord 3 (some .int), Cond.methodLink RX4 183 yX1_coveredInColumn, Cond.instanceMethod yX1_coveredInColumn, Cond.selects RX1 yX1_coveredInColumn yX1_coveredInColumn, Cond.code yX1_coveredInColumn cX1_coveredInColumn 4 (some .int), Cond.methodLink RX4 186 yX1_runsInColumn, Cond.instanceMethod yX1_runsInColumn, Cond.selects RX1 yX1_runsInColumn yX1_runsInColumn]
def wsL_law0_r25 : List Cond := [Cond.code yX1_runsInColumn cX1_runsInColumn 4 (some .int), Cond.methodLink RX4 189 yX1_longestRunInColumn, Cond.instanceMethod yX1_longestRunInColumn, Cond.selects RX1 yX1_longestRunInColumn yX1_longestRunInColumn, Cond.code yX1_longestRunInColumn cX1_longestRunInColumn 5 (some .int), Cond.methodLink RX1 116 Lib.Math.max.name, Cond.methodLink RX4 192 yX1_mostLayersInColumn, Cond.instanceMethod yX1_mostLayersInColumn, Cond.selects RX1 yX1_mostLayersInColumn yX1_mostLayersInColumn, Cond.code yX1_mostLayersInColumn cX1_mostLayersInColumn 4 (some .int), Cond.methodLink RL 102 yX5_cord, Cond.instanceMethod yX5_cord, Cond.selects RX5 yX5_cord yX5_cord, Cond.code yX5_cord cX5_cord 3 (some .int), Cond.methodLink RX5 137 yX5_cordTold, Cond.instanceMethod yX5_cordTold, Cond.selects RX5 yX5_cordTold yX5_cordTold, Cond.code yX5_cordTold cX5_cordTold 4 (some .int), Cond.methodLink RX5 131 yX5_longest, Cond.static yX5_longest, Cond.code yX5_longest cX5_longest 3 (some .int), Cond.methodLink RX5 134 yX5_deepest, Cond.instanceMethod yX5_deepest, Cond.selects RX5 yX5_deepest yX5_deepest]
def wsL_law0_r26 : List Cond := [Cond.code yX5_deepest cX5_deepest 4 (some .int), Cond.methodLink RX5 124 Lib.Math.max.name, Cond.methodLink RL 103 yL_told, Cond.static yL_told, Cond.codeWith yL_told cL_told 5 (some .int) [(0, 10, 13, 15)], Cond.methodLink RL 47 yX4_told, Cond.instanceMethod yX4_told, Cond.selects RX4 yX4_told yX4_told, Cond.code yX4_told cX4_told 4 (some .int), Cond.methodLink RX4 195 yX4_numberedStall, Cond.instanceMethod yX4_numberedStall, Cond.selects RX4 yX4_numberedStall yX4_numberedStall, Cond.code yX4_numberedStall cX4_numberedStall 2 (some (.object "MarketAwnings$Stall")), Cond.methodLink RX4 201 yX4_gotBy, Cond.instanceMethod yX4_gotBy, Cond.selects RX4 yX4_gotBy yX4_gotBy, Cond.code yX4_gotBy cX4_gotBy 2 (some .int), Cond.fieldLink RX4 261 "MarketAwnings$Stall" "groundBefore" "I", Cond.methodLink RL 105 yX5_told, Cond.instanceMethod yX5_told, Cond.selects RX5 yX5_told yX5_told, Cond.code yX5_told cX5_told 3 (some .int), Cond.methodLink RX5 143 yX5_isStall, Cond.instanceMethod yX5_isStall]
def wsL_law0_r27 : List Cond := [Cond.selects RX5 yX5_isStall yX5_isStall, Cond.code yX5_isStall cX5_isStall 2 (some .boolean), Cond.methodLink RL 106 yL_share, Cond.static yL_share, Cond.codeWith yL_share cL_share 5 (some .int) [(0, 10, 13, 15)], Cond.methodLink RL 50 yX4_share, Cond.instanceMethod yX4_share, Cond.selects RX4 yX4_share yX4_share, Cond.code yX4_share cX4_share 7 (some .int), Cond.methodLink RX4 205 Lib.Math.min.name, Cond.methodLink RX4 210 Lib.Math.max.name, Cond.methodLink RL 108 yX5_share, Cond.instanceMethod yX5_share, Cond.selects RX5 yX5_share yX5_share, Cond.code yX5_share cX5_share 5 (some .int), Cond.methodLink RL 109 yL_count, Cond.static yL_count, Cond.codeWith yL_count cL_count 4 (some .int) [(0, 9, 12, 15)], Cond.methodLink RL 53 yX4_count, Cond.instanceMethod yX4_count, Cond.selects RX4 yX4_count yX4_count, Cond.code yX4_count cX4_count 2 (some .int), Cond.methodLink RX4 213 yX1_sizeOut, Cond.instanceMethod yX1_sizeOut]
def wsL_law0_r28 : List Cond := [Cond.selects RX1 yX1_sizeOut yX1_sizeOut, Cond.code yX1_sizeOut cX1_sizeOut 3 (some .int), Cond.methodLink RX4 216 yX1_outline, Cond.instanceMethod yX1_outline, Cond.selects RX1 yX1_outline yX1_outline, Cond.code yX1_outline cX1_outline 4 (some .int), Cond.methodLink RX1 103 yX1_openSides, Cond.instanceMethod yX1_openSides, Cond.selects RX1 yX1_openSides yX1_openSides, Cond.code yX1_openSides cX1_openSides 3 (some .int), Cond.methodLink RX1 106 yX1_openAt, Cond.instanceMethod yX1_openAt, Cond.selects RX1 yX1_openAt yX1_openAt, Cond.code yX1_openAt cX1_openAt 3 (some .int), Cond.methodLink RX4 219 yX1_parts, Cond.instanceMethod yX1_parts, Cond.selects RX1 yX1_parts yX1_parts, Cond.code yX1_parts cX1_parts 4 (some .int), Cond.methodLink RX1 109 yX1_reach, Cond.instanceMethod yX1_reach, Cond.selects RX1 yX1_reach yX1_reach, Cond.code yX1_reach cX1_reach 4 none, Cond.methodLink RX1 113 yX1_reachAllFromQueue, Cond.instanceMethod yX1_reachAllFromQueue]
def wsL_law0_r29 : List Cond := [Cond.selects RX1 yX1_reachAllFromQueue yX1_reachAllFromQueue, Cond.code yX1_reachAllFromQueue cX1_reachAllFromQueue 4 none, Cond.methodLink RX4 222 yX1_cellsWithLayers, Cond.methodLink RX4 225 yX4_stallsNotCovered, Cond.instanceMethod yX4_stallsNotCovered, Cond.selects RX4 yX4_stallsNotCovered yX4_stallsNotCovered, Cond.code yX4_stallsNotCovered cX4_stallsNotCovered 4 (some .int), Cond.methodLink RL 111 yX5_count, Cond.instanceMethod yX5_count, Cond.selects RX5 yX5_count yX5_count, Cond.code yX5_count cX5_count 2 (some .int), Cond.methodLink RL 112 yL_would, Cond.static yL_would, Cond.codeWith yL_would cL_would 5 (some .int) [(0, 10, 13, 15), (0, 10, 17, 13)], Cond.methodLink RL 56 yX4_would, Cond.instanceMethod yX4_would, Cond.selects RX4 yX4_would yX4_would, Cond.code yX4_would cX4_would 4 (some .int), Cond.methodLink RL 114 yX5_would, Cond.instanceMethod yX5_would, Cond.selects RX5 yX5_would yX5_would, Cond.code yX5_would cX5_would 3 (some .int), Cond.methodLink RL 115 yL_best, Cond.static yL_best]
def wsL_law0_r30 : List Cond := [Cond.codeWith yL_best cL_best 6 (some .int) [(0, 12, 15, 13), (0, 12, 19, 15)], Cond.methodLink RL 59 yX4_best, Cond.instanceMethod yX4_best, Cond.selects RX4 yX4_best yX4_best, Cond.code yX4_best cX4_best 10 (some .int), Cond.methodLink RX4 228 yX1_notCoveredIn, Cond.instanceMethod yX1_notCoveredIn, Cond.selects RX1 yX1_notCoveredIn yX1_notCoveredIn, Cond.code yX1_notCoveredIn cX1_notCoveredIn 8 (some .int), Cond.methodLink RL 117 yX5_best, Cond.instanceMethod yX5_best, Cond.selects RX5 yX5_best yX5_best, Cond.code yX5_best cX5_best 10 (some .int), Cond.methodLink RL 118 yX4_advise, Cond.instanceMethod yX4_advise, Cond.selects RX4 yX4_advise yX4_advise, Cond.code yX4_advise cX4_advise 6 (some .int), Cond.methodLink RL 121 yX5_advise, Cond.instanceMethod yX5_advise, Cond.selects RX5 yX5_advise yX5_advise, Cond.code yX5_advise cX5_advise 3 (some .int), Cond.methodLink RL 122 yX4_mean, Cond.instanceMethod yX4_mean, Cond.selects RX4 yX4_mean yX4_mean]
def wsL_law0_r31 : List Cond := [Cond.code yX4_mean cX4_mean 4 (some .double), Cond.methodLink RL 126 yX5_mean, Cond.instanceMethod yX5_mean, Cond.selects RX5 yX5_mean yX5_mean, Cond.code yX5_mean cX5_mean 3 (some .double), Cond.methodLink RL 127 yX4_digest, Cond.instanceMethod yX4_digest, Cond.selects RX4 yX4_digest yX4_digest, Cond.code yX4_digest cX4_digest 5 (some .long), Cond.constantLong RX4 232 (1741), Cond.constantLong RX4 234 (31), Cond.methodLink RX4 236 yX4_count, Cond.methodLink RX4 239 yX4_about, Cond.methodLink RX4 242 yX4_told, Cond.methodLink RX4 245 yX4_digestOfColumn, Cond.instanceMethod yX4_digestOfColumn, Cond.selects RX4 yX4_digestOfColumn yX4_digestOfColumn, Cond.code yX4_digestOfColumn cX4_digestOfColumn 8 (some .long), Cond.methodLink RX4 249 yX4_cord, Cond.methodLink RX4 252 yX4_cell, Cond.methodLink RL 131 yX5_digest, Cond.instanceMethod yX5_digest, Cond.selects RX5 yX5_digest yX5_digest, Cond.code yX5_digest cX5_digest 6 (some .long)]
def wsL_law0_r32 : List Cond := [Cond.constantLong RX5 169 (1741), Cond.constantLong RX5 171 (31)]
def wsL_law0 : List Cond := (wsL_law0_r1 ++ (wsL_law0_r2 ++ (wsL_law0_r3 ++ (wsL_law0_r4 ++ (wsL_law0_r5 ++ (wsL_law0_r6 ++ (wsL_law0_r7 ++ (wsL_law0_r8 ++ (wsL_law0_r9 ++ (wsL_law0_r10 ++ (wsL_law0_r11 ++ (wsL_law0_r12 ++ (wsL_law0_r13 ++ (wsL_law0_r14 ++ (wsL_law0_r15 ++ (wsL_law0_r16 ++ (wsL_law0_r17 ++ (wsL_law0_r18 ++ (wsL_law0_r19 ++ (wsL_law0_r20 ++ (wsL_law0_r21 ++ (wsL_law0_r22 ++ (wsL_law0_r23 ++ (wsL_law0_r24 ++ (wsL_law0_r25 ++ (wsL_law0_r26 ++ (wsL_law0_r27 ++ (wsL_law0_r28 ++ (wsL_law0_r29 ++ (wsL_law0_r30 ++ (wsL_law0_r31 ++ wsL_law0_r32))))))))))))))))))))))))))))))) ++ wsX40 ++ wsX50 ++ wsX10 ++ wsX20 ++ wsJx4a65c0 ++ wsX00 ++ wsX30 ++ ([] : List Cond)
def wsL_law : List Cond := wsL_law0 ++ (vx_atS RX4 54 "java/lang/IllegalArgumentException" ["java/lang/RuntimeException", "java/lang/Exception"]).filter goodWord ++ (vx_atS RX4 71 "java/lang/IllegalStateException" ["java/lang/RuntimeException", "java/lang/Exception"]).filter goodWord ++ (vx_atS RX4 182 "java/lang/IndexOutOfBoundsException" ["java/lang/RuntimeException", "java/lang/Exception"]).filter goodWord ++ (vx_atS RX1 50 "java/lang/IndexOutOfBoundsException" ["java/lang/RuntimeException", "java/lang/Exception"]).filter goodWord
set_option maxRecDepth 20000 in
theorem wsL_law_c1 : ∀ w ∈ wsL_law0_r1, w ∈ lw_tbl := fun w h => (goodIn_r wsL_law0_r1 [70, 71, 49, 759, 760, 55, 1008, 72, 73, 74, 75, 76, 77, 78, 79, 50, 153, 127, 128, 54, 154, 151, 85, 53] (by decide +kernel) (by decide +kernel) w h).1
set_option maxRecDepth 20000 in
theorem wsL_law_c2 : ∀ w ∈ wsL_law0_r2, w ∈ lw_tbl := fun w h => (goodIn_r wsL_law0_r2 [155, 126, 156, 157, 158, 159, 80, 81, 82, 83, 84, 110, 111, 112, 113, 114, 86, 87, 88, 96, 98, 89, 90, 52] (by decide +kernel) (by decide +kernel) w h).1
set_option maxRecDepth 20000 in
theorem wsL_law_c3 : ∀ w ∈ wsL_law0_r3, w ∈ lw_tbl := fun w h => (goodIn_r wsL_law0_r3 [91, 100, 92, 93, 51, 94, 95, 129, 130, 131, 132, 133, 134, 135, 136, 138, 152, 761, 762, 763, 764, 767, 769, 770] (by decide +kernel) (by decide +kernel) w h).1
set_option maxRecDepth 20000 in
theorem wsL_law_c4 : ∀ w ∈ wsL_law0_r4, w ∈ lw_tbl := fun w h => (goodIn_r wsL_law0_r4 [771, 774, 775, 419, 420, 48, 421, 422, 423, 424, 425, 426, 427, 428, 432, 59, 454, 61, 470, 471, 62, 429, 430, 431] (by decide +kernel) (by decide +kernel) w h).1
set_option maxRecDepth 20000 in
theorem wsL_law_c5 : ∀ w ∈ wsL_law0_r5, w ∈ lw_tbl := fun w h => (goodIn_r wsL_law0_r5 [450, 451, 452, 294, 60, 179, 180, 181, 182, 183, 184, 185, 186, 99, 472, 473, 474, 475, 476, 479, 482, 485, 488, 492] (by decide +kernel) (by decide +kernel) w h).1
set_option maxRecDepth 20000 in
theorem wsL_law_c6 : ∀ w ∈ wsL_law0_r6, w ∈ lw_tbl := fun w h => (goodIn_r wsL_law0_r6 [494, 498, 517, 518, 519, 520, 521, 522, 523, 524, 101, 102, 525, 527, 10, 528, 529, 531, 11, 532, 533, 535, 12, 536] (by decide +kernel) (by decide +kernel) w h).1
set_option maxRecDepth 20000 in
theorem wsL_law_c7 : ∀ w ∈ wsL_law0_r7, w ∈ lw_tbl := fun w h => (goodIn_r wsL_law0_r7 [574, 397, 64, 398, 575, 537, 538, 63, 539, 540, 541, 542, 543, 544, 545, 546, 65, 547, 548, 1023, 549, 561, 562, 563] (by decide +kernel) (by decide +kernel) w h).1
set_option maxRecDepth 20000 in
theorem wsL_law_c8 : ∀ w ∈ wsL_law0_r8, w ∈ lw_tbl := fun w h => (goodIn_r wsL_law0_r8 [564, 565, 567, 568, 569, 570, 571, 573, 572, 66, 576, 577, 578, 579, 273, 496, 350, 351, 352, 259, 260, 261, 262, 263] (by decide +kernel) (by decide +kernel) w h).1
set_option maxRecDepth 20000 in
theorem wsL_law_c9 : ∀ w ∈ wsL_law0_r9, w ∈ lw_tbl := fun w h => (goodIn_r wsL_law0_r9 [264, 67, 265, 266, 267, 68, 268, 269, 270, 271, 272, 580, 582, 13, 583, 481, 487, 478, 484, 283, 284, 803, 804, 805] (by decide +kernel) (by decide +kernel) w h).1
set_option maxRecDepth 20000 in
theorem wsL_law_c10 : ∀ w ∈ wsL_law0_r10, w ∈ lw_tbl := fun w h => (goodIn_r wsL_law0_r10 [806, 765, 766, 817, 807, 808, 809, 810, 812, 20, 813, 814, 815, 816, 799, 800, 801, 802, 584, 585, 586, 587, 588, 589] (by decide +kernel) (by decide +kernel) w h).1
set_option maxRecDepth 20000 in
theorem wsL_law_c11 : ∀ w ∈ wsL_law0_r11, w ∈ lw_tbl := fun w h => (goodIn_r wsL_law0_r11 [590, 495, 187, 188, 189, 190, 191, 591, 818, 819, 820, 821, 822, 824, 21, 825, 826, 828, 22, 829, 830, 832, 23, 833] (by decide +kernel) (by decide +kernel) w h).1
set_option maxRecDepth 20000 in
theorem wsL_law_c12 : ∀ w ∈ wsL_law0_r12, w ∈ lw_tbl := fun w h => (goodIn_r wsL_law0_r12 [592, 593, 594, 595, 596, 597, 598, 483, 486, 477, 480, 326, 327, 328, 329, 330, 331, 332, 333, 834, 835, 836, 837, 838] (by decide +kernel) (by decide +kernel) w h).1
set_option maxRecDepth 20000 in
theorem wsL_law_c13 : ∀ w ∈ wsL_law0_r13, w ∈ lw_tbl := fun w h => (goodIn_r wsL_law0_r13 [840, 24, 841, 768, 772, 773, 842, 844, 25, 845, 846, 848, 26, 849, 850, 852, 27, 853, 854, 856, 28, 857, 858, 860] (by decide +kernel) (by decide +kernel) w h).1
set_option maxRecDepth 20000 in
theorem wsL_law_c14 : ∀ w ∈ wsL_law0_r14, w ∈ lw_tbl := fun w h => (goodIn_r wsL_law0_r14 [29, 861, 862, 863, 864, 865, 866, 867, 868, 870, 30, 871, 872, 873, 874, 875, 877, 31, 878, 879, 881, 32, 882, 883] (by decide +kernel) (by decide +kernel) w h).1
set_option maxRecDepth 20000 in
theorem wsL_law_c15 : ∀ w ∈ wsL_law0_r15, w ∈ lw_tbl := fun w h => (goodIn_r wsL_law0_r15 [885, 33, 886, 887, 889, 34, 890, 891, 893, 35, 894, 599, 600, 601, 602, 603, 604, 605, 606, 607, 608, 609, 610, 611] (by decide +kernel) (by decide +kernel) w h).1
set_option maxRecDepth 20000 in
theorem wsL_law_c16 : ∀ w ∈ wsL_law0_r16, w ∈ lw_tbl := fun w h => (goodIn_r wsL_law0_r16 [612, 613, 614, 616, 14, 617, 618, 895, 896, 897, 898, 619, 620, 621, 622, 623, 624, 625, 298, 632, 69, 407, 408, 409] (by decide +kernel) (by decide +kernel) w h).1
set_option maxRecDepth 20000 in
theorem wsL_law_c17 : ∀ w ∈ wsL_law0_r17, w ∈ lw_tbl := fun w h => (goodIn_r wsL_law0_r17 [307, 289, 627, 629, 15, 630, 298, 638, 640, 297, 303, 305, 3, 306, 633, 634, 635, 636, 637, 639, 641, 650, 899, 900] (by decide +kernel) (by decide +kernel) w h).1
set_option maxRecDepth 20000 in
theorem wsL_law_c18 : ∀ w ∈ wsL_law0_r18, w ∈ lw_tbl := fun w h => (goodIn_r wsL_law0_r18 [901, 902, 903, 904, 905, 651, 652, 653, 654, 655, 656, 657, 499, 137, 139, 658, 659, 660, 662, 663, 664, 665, 666, 668] (by decide +kernel) (by decide +kernel) w h).1
set_option maxRecDepth 20000 in
theorem wsL_law_c19 : ∀ w ∈ wsL_law0_r19, w ∈ lw_tbl := fun w h => (goodIn_r wsL_law0_r19 [16, 669, 670, 671, 673, 17, 674, 676, 412, 413, 414, 491, 415, 416, 417, 418, 677, 679, 18, 680, 497, 489, 681, 682] (by decide +kernel) (by decide +kernel) w h).1
set_option maxRecDepth 20000 in
theorem wsL_law_c20 : ∀ w ∈ wsL_law0_r20, w ∈ lw_tbl := fun w h => (goodIn_r wsL_law0_r20 [683, 684, 685, 686, 687, 689, 19, 690, 691, 692, 693, 694, 695, 696, 697, 698, 699, 700, 701, 702, 703, 704, 705, 706] (by decide +kernel) (by decide +kernel) w h).1
set_option maxRecDepth 20000 in
theorem wsL_law_c21 : ∀ w ∈ wsL_law0_r21, w ∈ lw_tbl := fun w h => (goodIn_r wsL_law0_r21 [707, 708, 709, 710, 711, 906, 907, 908, 909, 910, 912, 36, 913, 914, 916, 37, 917, 918, 920, 38, 921, 922, 924, 39] (by decide +kernel) (by decide +kernel) w h).1
set_option maxRecDepth 20000 in
theorem wsL_law_c22 : ∀ w ∈ wsL_law0_r22, w ∈ lw_tbl := fun w h => (goodIn_r wsL_law0_r22 [925, 926, 928, 40, 929, 930, 932, 41, 933, 712, 713, 714, 715, 368, 369, 370, 490, 493, 318, 319, 320, 274, 275, 276] (by decide +kernel) (by decide +kernel) w h).1
set_option maxRecDepth 20000 in
theorem wsL_law_c23 : ∀ w ∈ wsL_law0_r23, w ∈ lw_tbl := fun w h => (goodIn_r wsL_law0_r23 [277, 278, 279, 280, 281, 934, 935, 936, 937, 938, 940, 42, 941, 942, 944, 43, 945, 716, 717, 718, 719, 404, 405, 406] (by decide +kernel) (by decide +kernel) w h).1
set_option maxRecDepth 20000 in
theorem wsL_law_c24 : ∀ w ∈ wsL_law0_r24, w ∈ lw_tbl := fun w h => (goodIn_r wsL_law0_r24 [366, 411, 946, 947, 948, 949, 950, 952, 44, 953, 720, 721, 722, 723, 380, 381, 382, 384, 385, 386, 387, 388, 389, 390] (by decide +kernel) (by decide +kernel) w h).1
set_option maxRecDepth 20000 in
theorem wsL_law_c25 : ∀ w ∈ wsL_law0_r25, w ∈ lw_tbl := fun w h => (goodIn_r wsL_law0_r25 [391, 392, 393, 394, 395, 396, 399, 400, 401, 402, 954, 955, 956, 957, 958, 960, 45, 961, 962, 963, 964, 965, 967, 46] (by decide +kernel) (by decide +kernel) w h).1
set_option maxRecDepth 20000 in
theorem wsL_law_c26 : ∀ w ∈ wsL_law0_r26, w ∈ lw_tbl := fun w h => (goodIn_r wsL_law0_r26 [968, 969, 724, 725, 726, 727, 372, 373, 374, 290, 292, 1, 293, 299, 301, 2, 302, 642, 970, 971, 972, 973, 974, 976] (by decide +kernel) (by decide +kernel) w h).1
set_option maxRecDepth 20000 in
theorem wsL_law_c27 : ∀ w ∈ wsL_law0_r27, w ∈ lw_tbl := fun w h => (goodIn_r wsL_law0_r27 [47, 977, 728, 729, 730, 731, 732, 733, 734, 735, 736, 978, 979, 980, 981, 737, 738, 739, 740, 315, 316, 317, 322, 323] (by decide +kernel) (by decide +kernel) w h).1
set_option maxRecDepth 20000 in
theorem wsL_law_c28 : ∀ w ∈ wsL_law0_r28, w ∈ lw_tbl := fun w h => (goodIn_r wsL_law0_r28 [324, 325, 334, 335, 336, 337, 338, 340, 4, 341, 342, 344, 5, 345, 346, 347, 348, 349, 353, 355, 6, 356, 357, 359] (by decide +kernel) (by decide +kernel) w h).1
set_option maxRecDepth 20000 in
theorem wsL_law_c29 : ∀ w ∈ wsL_law0_r29, w ∈ lw_tbl := fun w h => (goodIn_r wsL_law0_r29 [7, 360, 361, 362, 364, 8, 365, 982, 983, 984, 985, 741, 742, 743, 744, 745, 746, 747, 986, 987, 988, 989, 748, 749] (by decide +kernel) (by decide +kernel) w h).1
set_option maxRecDepth 20000 in
theorem wsL_law_c30 : ∀ w ∈ wsL_law0_r30, w ∈ lw_tbl := fun w h => (goodIn_r wsL_law0_r30 [750, 751, 752, 753, 754, 755, 756, 757, 758, 990, 991, 992, 993, 175, 176, 177, 178, 994, 995, 996, 997, 285, 286, 287] (by decide +kernel) (by decide +kernel) w h).1
set_option maxRecDepth 20000 in
theorem wsL_law_c31 : ∀ w ∈ wsL_law0_r31, w ∈ lw_tbl := fun w h => (goodIn_r wsL_law0_r31 [288, 998, 999, 1000, 1001, 308, 309, 310, 311, 312, 313, 314, 367, 371, 375, 377, 9, 378, 379, 403, 1002, 1003, 1004, 1005] (by decide +kernel) (by decide +kernel) w h).1
set_option maxRecDepth 20000 in
theorem wsL_law_c32 : ∀ w ∈ wsL_law0_r32, w ∈ lw_tbl := fun w h => (goodIn_r wsL_law0_r32 [1006, 1007] (by decide +kernel) (by decide +kernel) w h).1
theorem wsL_law_in0a : ∀ w ∈ (wsL_law0_r1 ++ (wsL_law0_r2 ++ (wsL_law0_r3 ++ (wsL_law0_r4 ++ (wsL_law0_r5 ++ (wsL_law0_r6 ++ (wsL_law0_r7 ++ (wsL_law0_r8 ++ (wsL_law0_r9 ++ (wsL_law0_r10 ++ (wsL_law0_r11 ++ (wsL_law0_r12 ++ (wsL_law0_r13 ++ (wsL_law0_r14 ++ (wsL_law0_r15 ++ (wsL_law0_r16 ++ (wsL_law0_r17 ++ (wsL_law0_r18 ++ (wsL_law0_r19 ++ (wsL_law0_r20 ++ (wsL_law0_r21 ++ (wsL_law0_r22 ++ (wsL_law0_r23 ++ (wsL_law0_r24 ++ (wsL_law0_r25 ++ (wsL_law0_r26 ++ (wsL_law0_r27 ++ (wsL_law0_r28 ++ (wsL_law0_r29 ++ (wsL_law0_r30 ++ (wsL_law0_r31 ++ wsL_law0_r32))))))))))))))))))))))))))))))), w ∈ lw_tbl := fun w h => (List.mem_append.mp h).elim (fun h => wsL_law_c1 w h) (fun h => (List.mem_append.mp h).elim (fun h => wsL_law_c2 w h) (fun h => (List.mem_append.mp h).elim (fun h => wsL_law_c3 w h) (fun h => (List.mem_append.mp h).elim (fun h => wsL_law_c4 w h) (fun h => (List.mem_append.mp h).elim (fun h => wsL_law_c5 w h) (fun h => (List.mem_append.mp h).elim (fun h => wsL_law_c6 w h) (fun h => (List.mem_append.mp h).elim (fun h => wsL_law_c7 w h) (fun h => (List.mem_append.mp h).elim (fun h => wsL_law_c8 w h) (fun h => (List.mem_append.mp h).elim (fun h => wsL_law_c9 w h) (fun h => (List.mem_append.mp h).elim (fun h => wsL_law_c10 w h) (fun h => (List.mem_append.mp h).elim (fun h => wsL_law_c11 w h) (fun h => (List.mem_append.mp h).elim (fun h => wsL_law_c12 w h) (fun h => (List.mem_append.mp h).elim (fun h => wsL_law_c13 w h) (fun h => (List.mem_append.mp h).elim (fun h => wsL_law_c14 w h) (fun h => (List.mem_append.mp h).elim (fun h => wsL_law_c15 w h) (fun h => (List.mem_append.mp h).elim (fun h => wsL_law_c16 w h) (fun h => (List.mem_append.mp h).elim (fun h => wsL_law_c17 w h) (fun h => (List.mem_append.mp h).elim (fun h => wsL_law_c18 w h) (fun h => (List.mem_append.mp h).elim (fun h => wsL_law_c19 w h) (fun h => (List.mem_append.mp h).elim (fun h => wsL_law_c20 w h) (fun h => (List.mem_append.mp h).elim (fun h => wsL_law_c21 w h) (fun h => (List.mem_append.mp h).elim (fun h => wsL_law_c22 w h) (fun h => (List.mem_append.mp h).elim (fun h => wsL_law_c23 w h) (fun h => (List.mem_append.mp h).elim (fun h => wsL_law_c24 w h) (fun h => (List.mem_append.mp h).elim (fun h => wsL_law_c25 w h) (fun h => (List.mem_append.mp h).elim (fun h => wsL_law_c26 w h) (fun h => (List.mem_append.mp h).elim (fun h => wsL_law_c27 w h) (fun h => (List.mem_append.mp h).elim (fun h => wsL_law_c28 w h) (fun h => (List.mem_append.mp h).elim (fun h => wsL_law_c29 w h) (fun h => (List.mem_append.mp h).elim (fun h => wsL_law_c30 w h) (fun h => (List.mem_append.mp h).elim (fun h => wsL_law_c31 w h) (fun h => wsL_law_c32 w h)))))))))))))))))))))))))))))))
theorem wsL_law_uwsX40 : ∀ w ∈ wsX40, w ∈ lw_tbl := by decide +kernel
theorem wsL_law_uwsX50 : ∀ w ∈ wsX50, w ∈ lw_tbl := by decide +kernel
theorem wsL_law_uwsX10 : ∀ w ∈ wsX10, w ∈ lw_tbl := by decide +kernel
theorem wsL_law_uwsX20 : ∀ w ∈ wsX20, w ∈ lw_tbl := by decide +kernel
theorem wsL_law_uwsJx4a65c0 : ∀ w ∈ wsJx4a65c0, w ∈ lw_tbl := by decide +kernel
theorem wsL_law_uwsX00 : ∀ w ∈ wsX00, w ∈ lw_tbl := by decide +kernel
theorem wsL_law_uwsX30 : ∀ w ∈ wsX30, w ∈ lw_tbl := by decide +kernel
set_option maxRecDepth 20000 in
theorem wsL_law_in0 : ∀ w ∈ wsL_law0, w ∈ lw_tbl := fun w h => (List.mem_append.mp h).elim (fun h => (List.mem_append.mp h).elim (fun h => (List.mem_append.mp h).elim (fun h => (List.mem_append.mp h).elim (fun h => (List.mem_append.mp h).elim (fun h => (List.mem_append.mp h).elim (fun h => (List.mem_append.mp h).elim (fun h => (List.mem_append.mp h).elim (fun h => wsL_law_in0a w h) (fun h => wsL_law_uwsX40 w h)) (fun h => wsL_law_uwsX50 w h)) (fun h => wsL_law_uwsX10 w h)) (fun h => wsL_law_uwsX20 w h)) (fun h => wsL_law_uwsJx4a65c0 w h)) (fun h => wsL_law_uwsX00 w h)) (fun h => wsL_law_uwsX30 w h)) (fun h => absurd h List.not_mem_nil)
theorem wsL_law_x0 : ∀ w ∈ (vx_atS RX4 54 "java/lang/IllegalArgumentException" ["java/lang/RuntimeException", "java/lang/Exception"]).filter goodWord, w ∈ lw_tbl := by decide +kernel
theorem wsL_law_x1 : ∀ w ∈ (vx_atS RX4 71 "java/lang/IllegalStateException" ["java/lang/RuntimeException", "java/lang/Exception"]).filter goodWord, w ∈ lw_tbl := by decide +kernel
theorem wsL_law_x2 : ∀ w ∈ (vx_atS RX4 182 "java/lang/IndexOutOfBoundsException" ["java/lang/RuntimeException", "java/lang/Exception"]).filter goodWord, w ∈ lw_tbl := by decide +kernel
theorem wsL_law_x3 : ∀ w ∈ (vx_atS RX1 50 "java/lang/IndexOutOfBoundsException" ["java/lang/RuntimeException", "java/lang/Exception"]).filter goodWord, w ∈ lw_tbl := by decide +kernel
theorem wsL_law_in : ∀ w ∈ wsL_law, w ∈ lw_tbl := fun w h => (List.mem_append.mp h).elim (fun h => (List.mem_append.mp h).elim (fun h => (List.mem_append.mp h).elim (fun h => (List.mem_append.mp h).elim (fun h => wsL_law_in0 w h) (fun h => wsL_law_x0 w h)) (fun h => wsL_law_x1 w h)) (fun h => wsL_law_x2 w h)) (fun h => wsL_law_x3 w h)
theorem inlX0 : ∀ w ∈ wsX00, w ∈ wsL_law := fun _ h => List.mem_append_left _ (List.mem_append_left _ (List.mem_append_left _ (List.mem_append_left _ (List.mem_append_left _ (List.mem_append_left _ (List.mem_append_right _ h))))))
theorem inX0 : ∀ w ∈ wsX00, w ∈ lw_tbl := fun w h => wsL_law_in w (inlX0 w h)
theorem inlX1 : ∀ w ∈ wsX10, w ∈ wsL_law := fun _ h => List.mem_append_left _ (List.mem_append_left _ (List.mem_append_left _ (List.mem_append_left _ (List.mem_append_left _ (List.mem_append_left _ (List.mem_append_left _ (List.mem_append_left _ (List.mem_append_left _ (List.mem_append_right _ h)))))))))
theorem inX1 : ∀ w ∈ wsX10, w ∈ lw_tbl := fun w h => wsL_law_in w (inlX1 w h)
theorem inlX2 : ∀ w ∈ wsX20, w ∈ wsL_law := fun _ h => List.mem_append_left _ (List.mem_append_left _ (List.mem_append_left _ (List.mem_append_left _ (List.mem_append_left _ (List.mem_append_left _ (List.mem_append_left _ (List.mem_append_left _ (List.mem_append_right _ h))))))))
theorem inX2 : ∀ w ∈ wsX20, w ∈ lw_tbl := fun w h => wsL_law_in w (inlX2 w h)
theorem inlX3 : ∀ w ∈ wsX30, w ∈ wsL_law := fun _ h => List.mem_append_left _ (List.mem_append_left _ (List.mem_append_left _ (List.mem_append_left _ (List.mem_append_left _ (List.mem_append_right _ h)))))
theorem inX3 : ∀ w ∈ wsX30, w ∈ lw_tbl := fun w h => wsL_law_in w (inlX3 w h)
theorem inlX4 : ∀ w ∈ wsX40, w ∈ wsL_law := fun _ h => List.mem_append_left _ (List.mem_append_left _ (List.mem_append_left _ (List.mem_append_left _ (List.mem_append_left _ (List.mem_append_left _ (List.mem_append_left _ (List.mem_append_left _ (List.mem_append_left _ (List.mem_append_left _ (List.mem_append_left _ (List.mem_append_right _ h)))))))))))
theorem inX4 : ∀ w ∈ wsX40, w ∈ lw_tbl := fun w h => wsL_law_in w (inlX4 w h)
theorem inlX5 : ∀ w ∈ wsX50, w ∈ wsL_law := fun _ h => List.mem_append_left _ (List.mem_append_left _ (List.mem_append_left _ (List.mem_append_left _ (List.mem_append_left _ (List.mem_append_left _ (List.mem_append_left _ (List.mem_append_left _ (List.mem_append_left _ (List.mem_append_left _ (List.mem_append_right _ h))))))))))
theorem inX5 : ∀ w ∈ wsX50, w ∈ lw_tbl := fun w h => wsL_law_in w (inlX5 w h)
theorem inlJx4a65c : ∀ w ∈ wsJx4a65c0, w ∈ wsL_law := fun _ h => List.mem_append_left _ (List.mem_append_left _ (List.mem_append_left _ (List.mem_append_left _ (List.mem_append_left _ (List.mem_append_left _ (List.mem_append_left _ (List.mem_append_right _ h)))))))
theorem inJx4a65c : ∀ w ∈ wsJx4a65c0, w ∈ lw_tbl := fun w h => wsL_law_in w (inlJx4a65c w h)
abbrev vwCl : List vw_C := [(RJx4a65c, TJx4a65c, 3), (RX0, TX0, 8), (RX1, TX1, 5), (RX2, TX2, 5), (RX3, TX3, 3), (RX4, TX4, 7), (RX5, TX5, 11)]
end
section
theorem wl_1 : ∀ w ∈ wsL_law0_r1, w ∈ wsL_law := fun w h => List.mem_append_left _ (List.mem_append_left _ (List.mem_append_left _ (List.mem_append_left _ (List.mem_append_left _ (List.mem_append_left _ (List.mem_append_left _ (List.mem_append_left _ (List.mem_append_left _ (List.mem_append_left _ (List.mem_append_left _ (List.mem_append_left _ (List.mem_append_left _ h))))))))))))
theorem wl_2 : ∀ w ∈ wsL_law0_r2, w ∈ wsL_law := fun w h => List.mem_append_left _ (List.mem_append_left _ (List.mem_append_left _ (List.mem_append_left _ (List.mem_append_left _ (List.mem_append_left _ (List.mem_append_left _ (List.mem_append_left _ (List.mem_append_left _ (List.mem_append_left _ (List.mem_append_left _ (List.mem_append_left _ (List.mem_append_right _ (List.mem_append_left _ h)))))))))))))
theorem wl_3 : ∀ w ∈ wsL_law0_r3, w ∈ wsL_law := fun w h => List.mem_append_left _ (List.mem_append_left _ (List.mem_append_left _ (List.mem_append_left _ (List.mem_append_left _ (List.mem_append_left _ (List.mem_append_left _ (List.mem_append_left _ (List.mem_append_left _ (List.mem_append_left _ (List.mem_append_left _ (List.mem_append_left _ (List.mem_append_right _ (List.mem_append_right _ (List.mem_append_left _ h))))))))))))))
theorem wl_4 : ∀ w ∈ wsL_law0_r4, w ∈ wsL_law := fun w h => List.mem_append_left _ (List.mem_append_left _ (List.mem_append_left _ (List.mem_append_left _ (List.mem_append_left _ (List.mem_append_left _ (List.mem_append_left _ (List.mem_append_left _ (List.mem_append_left _ (List.mem_append_left _ (List.mem_append_left _ (List.mem_append_left _ (List.mem_append_right _ (List.mem_append_right _ (List.mem_append_right _ (List.mem_append_left _ h)))))))))))))))
theorem wl_5 : ∀ w ∈ wsL_law0_r5, w ∈ wsL_law := fun w h => List.mem_append_left _ (List.mem_append_left _ (List.mem_append_left _ (List.mem_append_left _ (List.mem_append_left _ (List.mem_append_left _ (List.mem_append_left _ (List.mem_append_left _ (List.mem_append_left _ (List.mem_append_left _ (List.mem_append_left _ (List.mem_append_left _ (List.mem_append_right _ (List.mem_append_right _ (List.mem_append_right _ (List.mem_append_right _ (List.mem_append_left _ h))))))))))))))))
theorem wl_6 : ∀ w ∈ wsL_law0_r6, w ∈ wsL_law := fun w h => List.mem_append_left _ (List.mem_append_left _ (List.mem_append_left _ (List.mem_append_left _ (List.mem_append_left _ (List.mem_append_left _ (List.mem_append_left _ (List.mem_append_left _ (List.mem_append_left _ (List.mem_append_left _ (List.mem_append_left _ (List.mem_append_left _ (List.mem_append_right _ (List.mem_append_right _ (List.mem_append_right _ (List.mem_append_right _ (List.mem_append_right _ (List.mem_append_left _ h)))))))))))))))))
theorem wl_7 : ∀ w ∈ wsL_law0_r7, w ∈ wsL_law := fun w h => List.mem_append_left _ (List.mem_append_left _ (List.mem_append_left _ (List.mem_append_left _ (List.mem_append_left _ (List.mem_append_left _ (List.mem_append_left _ (List.mem_append_left _ (List.mem_append_left _ (List.mem_append_left _ (List.mem_append_left _ (List.mem_append_left _ (List.mem_append_right _ (List.mem_append_right _ (List.mem_append_right _ (List.mem_append_right _ (List.mem_append_right _ (List.mem_append_right _ (List.mem_append_left _ h))))))))))))))))))
theorem wl_8 : ∀ w ∈ wsL_law0_r8, w ∈ wsL_law := fun w h => List.mem_append_left _ (List.mem_append_left _ (List.mem_append_left _ (List.mem_append_left _ (List.mem_append_left _ (List.mem_append_left _ (List.mem_append_left _ (List.mem_append_left _ (List.mem_append_left _ (List.mem_append_left _ (List.mem_append_left _ (List.mem_append_left _ (List.mem_append_right _ (List.mem_append_right _ (List.mem_append_right _ (List.mem_append_right _ (List.mem_append_right _ (List.mem_append_right _ (List.mem_append_right _ (List.mem_append_left _ h)))))))))))))))))))
theorem wl_9 : ∀ w ∈ wsL_law0_r9, w ∈ wsL_law := fun w h => List.mem_append_left _ (List.mem_append_left _ (List.mem_append_left _ (List.mem_append_left _ (List.mem_append_left _ (List.mem_append_left _ (List.mem_append_left _ (List.mem_append_left _ (List.mem_append_left _ (List.mem_append_left _ (List.mem_append_left _ (List.mem_append_left _ (List.mem_append_right _ (List.mem_append_right _ (List.mem_append_right _ (List.mem_append_right _ (List.mem_append_right _ (List.mem_append_right _ (List.mem_append_right _ (List.mem_append_right _ (List.mem_append_left _ h))))))))))))))))))))
theorem wl_10 : ∀ w ∈ wsL_law0_r10, w ∈ wsL_law := fun w h => List.mem_append_left _ (List.mem_append_left _ (List.mem_append_left _ (List.mem_append_left _ (List.mem_append_left _ (List.mem_append_left _ (List.mem_append_left _ (List.mem_append_left _ (List.mem_append_left _ (List.mem_append_left _ (List.mem_append_left _ (List.mem_append_left _ (List.mem_append_right _ (List.mem_append_right _ (List.mem_append_right _ (List.mem_append_right _ (List.mem_append_right _ (List.mem_append_right _ (List.mem_append_right _ (List.mem_append_right _ (List.mem_append_right _ (List.mem_append_left _ h)))))))))))))))))))))
theorem wl_11 : ∀ w ∈ wsL_law0_r11, w ∈ wsL_law := fun w h => List.mem_append_left _ (List.mem_append_left _ (List.mem_append_left _ (List.mem_append_left _ (List.mem_append_left _ (List.mem_append_left _ (List.mem_append_left _ (List.mem_append_left _ (List.mem_append_left _ (List.mem_append_left _ (List.mem_append_left _ (List.mem_append_left _ (List.mem_append_right _ (List.mem_append_right _ (List.mem_append_right _ (List.mem_append_right _ (List.mem_append_right _ (List.mem_append_right _ (List.mem_append_right _ (List.mem_append_right _ (List.mem_append_right _ (List.mem_append_right _ (List.mem_append_left _ h))))))))))))))))))))))
theorem wl_12 : ∀ w ∈ wsL_law0_r12, w ∈ wsL_law := fun w h => List.mem_append_left _ (List.mem_append_left _ (List.mem_append_left _ (List.mem_append_left _ (List.mem_append_left _ (List.mem_append_left _ (List.mem_append_left _ (List.mem_append_left _ (List.mem_append_left _ (List.mem_append_left _ (List.mem_append_left _ (List.mem_append_left _ (List.mem_append_right _ (List.mem_append_right _ (List.mem_append_right _ (List.mem_append_right _ (List.mem_append_right _ (List.mem_append_right _ (List.mem_append_right _ (List.mem_append_right _ (List.mem_append_right _ (List.mem_append_right _ (List.mem_append_right _ (List.mem_append_left _ h)))))))))))))))))))))))
theorem wl_13 : ∀ w ∈ wsL_law0_r13, w ∈ wsL_law := fun w h => List.mem_append_left _ (List.mem_append_left _ (List.mem_append_left _ (List.mem_append_left _ (List.mem_append_left _ (List.mem_append_left _ (List.mem_append_left _ (List.mem_append_left _ (List.mem_append_left _ (List.mem_append_left _ (List.mem_append_left _ (List.mem_append_left _ (List.mem_append_right _ (List.mem_append_right _ (List.mem_append_right _ (List.mem_append_right _ (List.mem_append_right _ (List.mem_append_right _ (List.mem_append_right _ (List.mem_append_right _ (List.mem_append_right _ (List.mem_append_right _ (List.mem_append_right _ (List.mem_append_right _ (List.mem_append_left _ h))))))))))))))))))))))))
theorem wl_14 : ∀ w ∈ wsL_law0_r14, w ∈ wsL_law := fun w h => List.mem_append_left _ (List.mem_append_left _ (List.mem_append_left _ (List.mem_append_left _ (List.mem_append_left _ (List.mem_append_left _ (List.mem_append_left _ (List.mem_append_left _ (List.mem_append_left _ (List.mem_append_left _ (List.mem_append_left _ (List.mem_append_left _ (List.mem_append_right _ (List.mem_append_right _ (List.mem_append_right _ (List.mem_append_right _ (List.mem_append_right _ (List.mem_append_right _ (List.mem_append_right _ (List.mem_append_right _ (List.mem_append_right _ (List.mem_append_right _ (List.mem_append_right _ (List.mem_append_right _ (List.mem_append_right _ (List.mem_append_left _ h)))))))))))))))))))))))))
theorem wl_15 : ∀ w ∈ wsL_law0_r15, w ∈ wsL_law := fun w h => List.mem_append_left _ (List.mem_append_left _ (List.mem_append_left _ (List.mem_append_left _ (List.mem_append_left _ (List.mem_append_left _ (List.mem_append_left _ (List.mem_append_left _ (List.mem_append_left _ (List.mem_append_left _ (List.mem_append_left _ (List.mem_append_left _ (List.mem_append_right _ (List.mem_append_right _ (List.mem_append_right _ (List.mem_append_right _ (List.mem_append_right _ (List.mem_append_right _ (List.mem_append_right _ (List.mem_append_right _ (List.mem_append_right _ (List.mem_append_right _ (List.mem_append_right _ (List.mem_append_right _ (List.mem_append_right _ (List.mem_append_right _ (List.mem_append_left _ h))))))))))))))))))))))))))
theorem wl_16 : ∀ w ∈ wsL_law0_r16, w ∈ wsL_law := fun w h => List.mem_append_left _ (List.mem_append_left _ (List.mem_append_left _ (List.mem_append_left _ (List.mem_append_left _ (List.mem_append_left _ (List.mem_append_left _ (List.mem_append_left _ (List.mem_append_left _ (List.mem_append_left _ (List.mem_append_left _ (List.mem_append_left _ (List.mem_append_right _ (List.mem_append_right _ (List.mem_append_right _ (List.mem_append_right _ (List.mem_append_right _ (List.mem_append_right _ (List.mem_append_right _ (List.mem_append_right _ (List.mem_append_right _ (List.mem_append_right _ (List.mem_append_right _ (List.mem_append_right _ (List.mem_append_right _ (List.mem_append_right _ (List.mem_append_right _ (List.mem_append_left _ h)))))))))))))))))))))))))))
theorem wl_17 : ∀ w ∈ wsL_law0_r17, w ∈ wsL_law := fun w h => List.mem_append_left _ (List.mem_append_left _ (List.mem_append_left _ (List.mem_append_left _ (List.mem_append_left _ (List.mem_append_left _ (List.mem_append_left _ (List.mem_append_left _ (List.mem_append_left _ (List.mem_append_left _ (List.mem_append_left _ (List.mem_append_left _ (List.mem_append_right _ (List.mem_append_right _ (List.mem_append_right _ (List.mem_append_right _ (List.mem_append_right _ (List.mem_append_right _ (List.mem_append_right _ (List.mem_append_right _ (List.mem_append_right _ (List.mem_append_right _ (List.mem_append_right _ (List.mem_append_right _ (List.mem_append_right _ (List.mem_append_right _ (List.mem_append_right _ (List.mem_append_right _ (List.mem_append_left _ h))))))))))))))))))))))))))))
theorem wl_18 : ∀ w ∈ wsL_law0_r18, w ∈ wsL_law := fun w h => List.mem_append_left _ (List.mem_append_left _ (List.mem_append_left _ (List.mem_append_left _ (List.mem_append_left _ (List.mem_append_left _ (List.mem_append_left _ (List.mem_append_left _ (List.mem_append_left _ (List.mem_append_left _ (List.mem_append_left _ (List.mem_append_left _ (List.mem_append_right _ (List.mem_append_right _ (List.mem_append_right _ (List.mem_append_right _ (List.mem_append_right _ (List.mem_append_right _ (List.mem_append_right _ (List.mem_append_right _ (List.mem_append_right _ (List.mem_append_right _ (List.mem_append_right _ (List.mem_append_right _ (List.mem_append_right _ (List.mem_append_right _ (List.mem_append_right _ (List.mem_append_right _ (List.mem_append_right _ (List.mem_append_left _ h)))))))))))))))))))))))))))))
theorem wl_19 : ∀ w ∈ wsL_law0_r19, w ∈ wsL_law := fun w h => List.mem_append_left _ (List.mem_append_left _ (List.mem_append_left _ (List.mem_append_left _ (List.mem_append_left _ (List.mem_append_left _ (List.mem_append_left _ (List.mem_append_left _ (List.mem_append_left _ (List.mem_append_left _ (List.mem_append_left _ (List.mem_append_left _ (List.mem_append_right _ (List.mem_append_right _ (List.mem_append_right _ (List.mem_append_right _ (List.mem_append_right _ (List.mem_append_right _ (List.mem_append_right _ (List.mem_append_right _ (List.mem_append_right _ (List.mem_append_right _ (List.mem_append_right _ (List.mem_append_right _ (List.mem_append_right _ (List.mem_append_right _ (List.mem_append_right _ (List.mem_append_right _ (List.mem_append_right _ (List.mem_append_right _ (List.mem_append_left _ h))))))))))))))))))))))))))))))
theorem wl_20 : ∀ w ∈ wsL_law0_r20, w ∈ wsL_law := fun w h => List.mem_append_left _ (List.mem_append_left _ (List.mem_append_left _ (List.mem_append_left _ (List.mem_append_left _ (List.mem_append_left _ (List.mem_append_left _ (List.mem_append_left _ (List.mem_append_left _ (List.mem_append_left _ (List.mem_append_left _ (List.mem_append_left _ (List.mem_append_right _ (List.mem_append_right _ (List.mem_append_right _ (List.mem_append_right _ (List.mem_append_right _ (List.mem_append_right _ (List.mem_append_right _ (List.mem_append_right _ (List.mem_append_right _ (List.mem_append_right _ (List.mem_append_right _ (List.mem_append_right _ (List.mem_append_right _ (List.mem_append_right _ (List.mem_append_right _ (List.mem_append_right _ (List.mem_append_right _ (List.mem_append_right _ (List.mem_append_right _ (List.mem_append_left _ h)))))))))))))))))))))))))))))))
theorem wl_21 : ∀ w ∈ wsL_law0_r21, w ∈ wsL_law := fun w h => List.mem_append_left _ (List.mem_append_left _ (List.mem_append_left _ (List.mem_append_left _ (List.mem_append_left _ (List.mem_append_left _ (List.mem_append_left _ (List.mem_append_left _ (List.mem_append_left _ (List.mem_append_left _ (List.mem_append_left _ (List.mem_append_left _ (List.mem_append_right _ (List.mem_append_right _ (List.mem_append_right _ (List.mem_append_right _ (List.mem_append_right _ (List.mem_append_right _ (List.mem_append_right _ (List.mem_append_right _ (List.mem_append_right _ (List.mem_append_right _ (List.mem_append_right _ (List.mem_append_right _ (List.mem_append_right _ (List.mem_append_right _ (List.mem_append_right _ (List.mem_append_right _ (List.mem_append_right _ (List.mem_append_right _ (List.mem_append_right _ (List.mem_append_right _ (List.mem_append_left _ h))))))))))))))))))))))))))))))))
theorem wl_22 : ∀ w ∈ wsL_law0_r22, w ∈ wsL_law := fun w h => List.mem_append_left _ (List.mem_append_left _ (List.mem_append_left _ (List.mem_append_left _ (List.mem_append_left _ (List.mem_append_left _ (List.mem_append_left _ (List.mem_append_left _ (List.mem_append_left _ (List.mem_append_left _ (List.mem_append_left _ (List.mem_append_left _ (List.mem_append_right _ (List.mem_append_right _ (List.mem_append_right _ (List.mem_append_right _ (List.mem_append_right _ (List.mem_append_right _ (List.mem_append_right _ (List.mem_append_right _ (List.mem_append_right _ (List.mem_append_right _ (List.mem_append_right _ (List.mem_append_right _ (List.mem_append_right _ (List.mem_append_right _ (List.mem_append_right _ (List.mem_append_right _ (List.mem_append_right _ (List.mem_append_right _ (List.mem_append_right _ (List.mem_append_right _ (List.mem_append_right _ (List.mem_append_left _ h)))))))))))))))))))))))))))))))))
theorem wl_23 : ∀ w ∈ wsL_law0_r23, w ∈ wsL_law := fun w h => List.mem_append_left _ (List.mem_append_left _ (List.mem_append_left _ (List.mem_append_left _ (List.mem_append_left _ (List.mem_append_left _ (List.mem_append_left _ (List.mem_append_left _ (List.mem_append_left _ (List.mem_append_left _ (List.mem_append_left _ (List.mem_append_left _ (List.mem_append_right _ (List.mem_append_right _ (List.mem_append_right _ (List.mem_append_right _ (List.mem_append_right _ (List.mem_append_right _ (List.mem_append_right _ (List.mem_append_right _ (List.mem_append_right _ (List.mem_append_right _ (List.mem_append_right _ (List.mem_append_right _ (List.mem_append_right _ (List.mem_append_right _ (List.mem_append_right _ (List.mem_append_right _ (List.mem_append_right _ (List.mem_append_right _ (List.mem_append_right _ (List.mem_append_right _ (List.mem_append_right _ (List.mem_append_right _ (List.mem_append_left _ h))))))))))))))))))))))))))))))))))
theorem wl_24 : ∀ w ∈ wsL_law0_r24, w ∈ wsL_law := fun w h => List.mem_append_left _ (List.mem_append_left _ (List.mem_append_left _ (List.mem_append_left _ (List.mem_append_left _ (List.mem_append_left _ (List.mem_append_left _ (List.mem_append_left _ (List.mem_append_left _ (List.mem_append_left _ (List.mem_append_left _ (List.mem_append_left _ (List.mem_append_right _ (List.mem_append_right _ (List.mem_append_right _ (List.mem_append_right _ (List.mem_append_right _ (List.mem_append_right _ (List.mem_append_right _ (List.mem_append_right _ (List.mem_append_right _ (List.mem_append_right _ (List.mem_append_right _ (List.mem_append_right _ (List.mem_append_right _ (List.mem_append_right _ (List.mem_append_right _ (List.mem_append_right _ (List.mem_append_right _ (List.mem_append_right _ (List.mem_append_right _ (List.mem_append_right _ (List.mem_append_right _ (List.mem_append_right _ (List.mem_append_right _ (List.mem_append_left _ h)))))))))))))))))))))))))))))))))))
theorem wl_25 : ∀ w ∈ wsL_law0_r25, w ∈ wsL_law := fun w h => List.mem_append_left _ (List.mem_append_left _ (List.mem_append_left _ (List.mem_append_left _ (List.mem_append_left _ (List.mem_append_left _ (List.mem_append_left _ (List.mem_append_left _ (List.mem_append_left _ (List.mem_append_left _ (List.mem_append_left _ (List.mem_append_left _ (List.mem_append_right _ (List.mem_append_right _ (List.mem_append_right _ (List.mem_append_right _ (List.mem_append_right _ (List.mem_append_right _ (List.mem_append_right _ (List.mem_append_right _ (List.mem_append_right _ (List.mem_append_right _ (List.mem_append_right _ (List.mem_append_right _ (List.mem_append_right _ (List.mem_append_right _ (List.mem_append_right _ (List.mem_append_right _ (List.mem_append_right _ (List.mem_append_right _ (List.mem_append_right _ (List.mem_append_right _ (List.mem_append_right _ (List.mem_append_right _ (List.mem_append_right _ (List.mem_append_right _ (List.mem_append_left _ h))))))))))))))))))))))))))))))))))))
theorem wl_26 : ∀ w ∈ wsL_law0_r26, w ∈ wsL_law := fun w h => List.mem_append_left _ (List.mem_append_left _ (List.mem_append_left _ (List.mem_append_left _ (List.mem_append_left _ (List.mem_append_left _ (List.mem_append_left _ (List.mem_append_left _ (List.mem_append_left _ (List.mem_append_left _ (List.mem_append_left _ (List.mem_append_left _ (List.mem_append_right _ (List.mem_append_right _ (List.mem_append_right _ (List.mem_append_right _ (List.mem_append_right _ (List.mem_append_right _ (List.mem_append_right _ (List.mem_append_right _ (List.mem_append_right _ (List.mem_append_right _ (List.mem_append_right _ (List.mem_append_right _ (List.mem_append_right _ (List.mem_append_right _ (List.mem_append_right _ (List.mem_append_right _ (List.mem_append_right _ (List.mem_append_right _ (List.mem_append_right _ (List.mem_append_right _ (List.mem_append_right _ (List.mem_append_right _ (List.mem_append_right _ (List.mem_append_right _ (List.mem_append_right _ (List.mem_append_left _ h)))))))))))))))))))))))))))))))))))))
theorem wl_27 : ∀ w ∈ wsL_law0_r27, w ∈ wsL_law := fun w h => List.mem_append_left _ (List.mem_append_left _ (List.mem_append_left _ (List.mem_append_left _ (List.mem_append_left _ (List.mem_append_left _ (List.mem_append_left _ (List.mem_append_left _ (List.mem_append_left _ (List.mem_append_left _ (List.mem_append_left _ (List.mem_append_left _ (List.mem_append_right _ (List.mem_append_right _ (List.mem_append_right _ (List.mem_append_right _ (List.mem_append_right _ (List.mem_append_right _ (List.mem_append_right _ (List.mem_append_right _ (List.mem_append_right _ (List.mem_append_right _ (List.mem_append_right _ (List.mem_append_right _ (List.mem_append_right _ (List.mem_append_right _ (List.mem_append_right _ (List.mem_append_right _ (List.mem_append_right _ (List.mem_append_right _ (List.mem_append_right _ (List.mem_append_right _ (List.mem_append_right _ (List.mem_append_right _ (List.mem_append_right _ (List.mem_append_right _ (List.mem_append_right _ (List.mem_append_right _ (List.mem_append_left _ h))))))))))))))))))))))))))))))))))))))
theorem wl_28 : ∀ w ∈ wsL_law0_r28, w ∈ wsL_law := fun w h => List.mem_append_left _ (List.mem_append_left _ (List.mem_append_left _ (List.mem_append_left _ (List.mem_append_left _ (List.mem_append_left _ (List.mem_append_left _ (List.mem_append_left _ (List.mem_append_left _ (List.mem_append_left _ (List.mem_append_left _ (List.mem_append_left _ (List.mem_append_right _ (List.mem_append_right _ (List.mem_append_right _ (List.mem_append_right _ (List.mem_append_right _ (List.mem_append_right _ (List.mem_append_right _ (List.mem_append_right _ (List.mem_append_right _ (List.mem_append_right _ (List.mem_append_right _ (List.mem_append_right _ (List.mem_append_right _ (List.mem_append_right _ (List.mem_append_right _ (List.mem_append_right _ (List.mem_append_right _ (List.mem_append_right _ (List.mem_append_right _ (List.mem_append_right _ (List.mem_append_right _ (List.mem_append_right _ (List.mem_append_right _ (List.mem_append_right _ (List.mem_append_right _ (List.mem_append_right _ (List.mem_append_right _ (List.mem_append_left _ h)))))))))))))))))))))))))))))))))))))))
theorem wl_29 : ∀ w ∈ wsL_law0_r29, w ∈ wsL_law := fun w h => List.mem_append_left _ (List.mem_append_left _ (List.mem_append_left _ (List.mem_append_left _ (List.mem_append_left _ (List.mem_append_left _ (List.mem_append_left _ (List.mem_append_left _ (List.mem_append_left _ (List.mem_append_left _ (List.mem_append_left _ (List.mem_append_left _ (List.mem_append_right _ (List.mem_append_right _ (List.mem_append_right _ (List.mem_append_right _ (List.mem_append_right _ (List.mem_append_right _ (List.mem_append_right _ (List.mem_append_right _ (List.mem_append_right _ (List.mem_append_right _ (List.mem_append_right _ (List.mem_append_right _ (List.mem_append_right _ (List.mem_append_right _ (List.mem_append_right _ (List.mem_append_right _ (List.mem_append_right _ (List.mem_append_right _ (List.mem_append_right _ (List.mem_append_right _ (List.mem_append_right _ (List.mem_append_right _ (List.mem_append_right _ (List.mem_append_right _ (List.mem_append_right _ (List.mem_append_right _ (List.mem_append_right _ (List.mem_append_right _ (List.mem_append_left _ h))))))))))))))))))))))))))))))))))))))))
theorem wl_30 : ∀ w ∈ wsL_law0_r30, w ∈ wsL_law := fun w h => List.mem_append_left _ (List.mem_append_left _ (List.mem_append_left _ (List.mem_append_left _ (List.mem_append_left _ (List.mem_append_left _ (List.mem_append_left _ (List.mem_append_left _ (List.mem_append_left _ (List.mem_append_left _ (List.mem_append_left _ (List.mem_append_left _ (List.mem_append_right _ (List.mem_append_right _ (List.mem_append_right _ (List.mem_append_right _ (List.mem_append_right _ (List.mem_append_right _ (List.mem_append_right _ (List.mem_append_right _ (List.mem_append_right _ (List.mem_append_right _ (List.mem_append_right _ (List.mem_append_right _ (List.mem_append_right _ (List.mem_append_right _ (List.mem_append_right _ (List.mem_append_right _ (List.mem_append_right _ (List.mem_append_right _ (List.mem_append_right _ (List.mem_append_right _ (List.mem_append_right _ (List.mem_append_right _ (List.mem_append_right _ (List.mem_append_right _ (List.mem_append_right _ (List.mem_append_right _ (List.mem_append_right _ (List.mem_append_right _ (List.mem_append_right _ (List.mem_append_left _ h)))))))))))))))))))))))))))))))))))))))))
theorem wl_31 : ∀ w ∈ wsL_law0_r31, w ∈ wsL_law := fun w h => List.mem_append_left _ (List.mem_append_left _ (List.mem_append_left _ (List.mem_append_left _ (List.mem_append_left _ (List.mem_append_left _ (List.mem_append_left _ (List.mem_append_left _ (List.mem_append_left _ (List.mem_append_left _ (List.mem_append_left _ (List.mem_append_left _ (List.mem_append_right _ (List.mem_append_right _ (List.mem_append_right _ (List.mem_append_right _ (List.mem_append_right _ (List.mem_append_right _ (List.mem_append_right _ (List.mem_append_right _ (List.mem_append_right _ (List.mem_append_right _ (List.mem_append_right _ (List.mem_append_right _ (List.mem_append_right _ (List.mem_append_right _ (List.mem_append_right _ (List.mem_append_right _ (List.mem_append_right _ (List.mem_append_right _ (List.mem_append_right _ (List.mem_append_right _ (List.mem_append_right _ (List.mem_append_right _ (List.mem_append_right _ (List.mem_append_right _ (List.mem_append_right _ (List.mem_append_right _ (List.mem_append_right _ (List.mem_append_right _ (List.mem_append_right _ (List.mem_append_right _ (List.mem_append_left _ h))))))))))))))))))))))))))))))))))))))))))
theorem wl_32 : ∀ w ∈ wsL_law0_r32, w ∈ wsL_law := fun w h => List.mem_append_left _ (List.mem_append_left _ (List.mem_append_left _ (List.mem_append_left _ (List.mem_append_left _ (List.mem_append_left _ (List.mem_append_left _ (List.mem_append_left _ (List.mem_append_left _ (List.mem_append_left _ (List.mem_append_left _ (List.mem_append_left _ (List.mem_append_right _ (List.mem_append_right _ (List.mem_append_right _ (List.mem_append_right _ (List.mem_append_right _ (List.mem_append_right _ (List.mem_append_right _ (List.mem_append_right _ (List.mem_append_right _ (List.mem_append_right _ (List.mem_append_right _ (List.mem_append_right _ (List.mem_append_right _ (List.mem_append_right _ (List.mem_append_right _ (List.mem_append_right _ (List.mem_append_right _ (List.mem_append_right _ (List.mem_append_right _ (List.mem_append_right _ (List.mem_append_right _ (List.mem_append_right _ (List.mem_append_right _ (List.mem_append_right _ (List.mem_append_right _ (List.mem_append_right _ (List.mem_append_right _ (List.mem_append_right _ (List.mem_append_right _ (List.mem_append_right _ (List.mem_append_right _ (h)))))))))))))))))))))))))))))))))))))))))))
theorem q_0 : Cond.classLink RL 8 RX4 ∈ wsL_law := wl_1 _ (List.mem_of_getElem? (i := 0) rfl)
theorem q_1 : Cond.instantiable RX4 7 ∈ wsL_law := wl_1 _ (List.mem_of_getElem? (i := 1) rfl)
theorem q_2 : Cond.initialized RX4 ∈ wsL_law := wl_1 _ (List.mem_of_getElem? (i := 2) rfl)
theorem q_3 : Cond.classLink RL 63 RX5 ∈ wsL_law := wl_1 _ (List.mem_of_getElem? (i := 3) rfl)
theorem q_4 : Cond.instantiable RX5 11 ∈ wsL_law := wl_1 _ (List.mem_of_getElem? (i := 4) rfl)
theorem q_5 : Cond.initialized RX5 ∈ wsL_law := wl_1 _ (List.mem_of_getElem? (i := 5) rfl)
theorem q_6 : Cond.arrayClass .long ∈ wsL_law := wl_1 _ (List.mem_of_getElem? (i := 6) rfl)
theorem q_7 : Cond.methodLink RL 62 yX4_init ∈ wsL_law := wl_1 _ (List.mem_of_getElem? (i := 7) rfl)
theorem q_8 : Cond.instanceMethod yX4_init ∈ wsL_law := wl_1 _ (List.mem_of_getElem? (i := 8) rfl)
theorem q_9 : Cond.code yX4_init cX4_init 1 none ∈ wsL_law := wl_1 _ (List.mem_of_getElem? (i := 9) rfl)
theorem q_10 : Cond.methodLink RX4 3 objectInit ∈ wsL_law := wl_1 _ (List.mem_of_getElem? (i := 10) rfl)
theorem q_11 : Cond.instanceMethod objectInit ∈ wsL_law := wl_1 _ (List.mem_of_getElem? (i := 11) rfl)
theorem q_12 : Cond.code objectInit ⟨#[0xb1]⟩ 1 none ∈ wsL_law := wl_1 _ (List.mem_of_getElem? (i := 12) rfl)
theorem q_13 : Cond.classLink RX4 9 RX1 ∈ wsL_law := wl_1 _ (List.mem_of_getElem? (i := 13) rfl)
theorem q_14 : Cond.instantiable RX1 5 ∈ wsL_law := wl_1 _ (List.mem_of_getElem? (i := 14) rfl)
theorem q_15 : Cond.initialized RX1 ∈ wsL_law := wl_1 _ (List.mem_of_getElem? (i := 15) rfl)
theorem q_16 : Cond.fieldLink RX4 12 "MarketAwnings" "canopy" "LMarketAwnings$Canopy;" ∈ wsL_law := wl_1 _ (List.mem_of_getElem? (i := 16) rfl)
theorem q_17 : Cond.classLink RX4 16 RX2 ∈ wsL_law := wl_1 _ (List.mem_of_getElem? (i := 17) rfl)
theorem q_18 : Cond.instantiable RX2 5 ∈ wsL_law := wl_1 _ (List.mem_of_getElem? (i := 18) rfl)
theorem q_19 : Cond.initialized RX2 ∈ wsL_law := wl_1 _ (List.mem_of_getElem? (i := 19) rfl)
theorem q_20 : Cond.fieldLink RX4 21 "MarketAwnings" "shower" "LMarketAwnings$Shower;" ∈ wsL_law := wl_1 _ (List.mem_of_getElem? (i := 20) rfl)
theorem q_21 : Cond.classLink RX4 25 RJx4a65c ∈ wsL_law := wl_1 _ (List.mem_of_getElem? (i := 21) rfl)
theorem q_22 : Cond.instantiable RJx4a65c 3 ∈ wsL_law := wl_1 _ (List.mem_of_getElem? (i := 22) rfl)
theorem q_23 : Cond.initialized RJx4a65c ∈ wsL_law := wl_1 _ (List.mem_of_getElem? (i := 23) rfl)
theorem q_24 : Cond.fieldLink RX4 28 "MarketAwnings" "stalls" "Ljava/util/ArrayList;" ∈ wsL_law := wl_2 _ (List.mem_of_getElem? (i := 0) rfl)
theorem q_25 : Cond.arrayClass .int ∈ wsL_law := wl_2 _ (List.mem_of_getElem? (i := 1) rfl)
theorem q_26 : Cond.fieldLink RX4 32 "MarketAwnings" "ground" "[I" ∈ wsL_law := wl_2 _ (List.mem_of_getElem? (i := 2) rfl)
theorem q_27 : Cond.fieldLink RX4 36 "MarketAwnings" "hours" "I" ∈ wsL_law := wl_2 _ (List.mem_of_getElem? (i := 3) rfl)
theorem q_28 : Cond.fieldLink RX4 40 "MarketAwnings" "groundDrops" "I" ∈ wsL_law := wl_2 _ (List.mem_of_getElem? (i := 4) rfl)
theorem q_29 : Cond.fieldLink RX4 43 "MarketAwnings" "offDrops" "I" ∈ wsL_law := wl_2 _ (List.mem_of_getElem? (i := 5) rfl)
theorem q_30 : Cond.methodLink RX4 11 yX1_init ∈ wsL_law := wl_2 _ (List.mem_of_getElem? (i := 6) rfl)
theorem q_31 : Cond.instanceMethod yX1_init ∈ wsL_law := wl_2 _ (List.mem_of_getElem? (i := 7) rfl)
theorem q_32 : Cond.code yX1_init cX1_init 1 none ∈ wsL_law := wl_2 _ (List.mem_of_getElem? (i := 8) rfl)
theorem q_33 : Cond.methodLink RX1 3 objectInit ∈ wsL_law := wl_2 _ (List.mem_of_getElem? (i := 9) rfl)
theorem q_34 : Cond.classLink RX1 9 RJx4a65c ∈ wsL_law := wl_2 _ (List.mem_of_getElem? (i := 10) rfl)
theorem q_35 : Cond.fieldLink RX1 12 "MarketAwnings$Canopy" "awnings" "Ljava/util/ArrayList;" ∈ wsL_law := wl_2 _ (List.mem_of_getElem? (i := 11) rfl)
theorem q_36 : Cond.fieldLink RX1 18 "MarketAwnings$Canopy" "layers" "[I" ∈ wsL_law := wl_2 _ (List.mem_of_getElem? (i := 12) rfl)
theorem q_37 : Cond.fieldLink RX1 22 "MarketAwnings$Canopy" "reached" "[I" ∈ wsL_law := wl_2 _ (List.mem_of_getElem? (i := 13) rfl)
theorem q_38 : Cond.fieldLink RX1 25 "MarketAwnings$Canopy" "queue" "[I" ∈ wsL_law := wl_2 _ (List.mem_of_getElem? (i := 14) rfl)
theorem q_39 : Cond.fieldLink RX1 28 "MarketAwnings$Canopy" "queued" "I" ∈ wsL_law := wl_2 _ (List.mem_of_getElem? (i := 15) rfl)
theorem q_40 : Cond.methodLink RX1 11 yJx4a65c_init_da8c8 ∈ wsL_law := wl_2 _ (List.mem_of_getElem? (i := 16) rfl)
theorem q_41 : Cond.instanceMethod yJx4a65c_init_da8c8 ∈ wsL_law := wl_2 _ (List.mem_of_getElem? (i := 17) rfl)
theorem q_42 : Cond.code yJx4a65c_init_da8c8 cJx4a65c_init_da8c8 1 none ∈ wsL_law := wl_2 _ (List.mem_of_getElem? (i := 18) rfl)
theorem q_43 : Cond.fieldLink RJx4a65c 39 "java/util/ArrayList" "DEFAULTCAPACITY_EMPTY_ELEMENTDATA" "[Ljava/lang/Object;" ∈ wsL_law := wl_2 _ (List.mem_of_getElem? (i := 19) rfl)
theorem q_44 : Cond.fieldLink RJx4a65c 9 "java/util/ArrayList" "elementData" "[Ljava/lang/Object;" ∈ wsL_law := wl_2 _ (List.mem_of_getElem? (i := 20) rfl)
theorem q_45 : Cond.methodLink RJx4a65c 1 yJxc12de_init_da8c8 ∈ wsL_law := wl_2 _ (List.mem_of_getElem? (i := 21) rfl)
theorem q_46 : Cond.instanceMethod yJxc12de_init_da8c8 ∈ wsL_law := wl_2 _ (List.mem_of_getElem? (i := 22) rfl)
theorem q_47 : Cond.initialized RJxc12de ∈ wsL_law := wl_2 _ (List.mem_of_getElem? (i := 23) rfl)
theorem q_48 : Cond.code yJxc12de_init_da8c8 cJxc12de_init_da8c8 1 none ∈ wsL_law := wl_3 _ (List.mem_of_getElem? (i := 0) rfl)
theorem q_49 : Cond.fieldLink RJxc12de 7 "java/util/AbstractList" "modCount" "I" ∈ wsL_law := wl_3 _ (List.mem_of_getElem? (i := 1) rfl)
theorem q_50 : Cond.methodLink RJxc12de 1 yJxa1e45_init_da8c8 ∈ wsL_law := wl_3 _ (List.mem_of_getElem? (i := 2) rfl)
theorem q_51 : Cond.instanceMethod yJxa1e45_init_da8c8 ∈ wsL_law := wl_3 _ (List.mem_of_getElem? (i := 3) rfl)
theorem q_52 : Cond.initialized RJxa1e45 ∈ wsL_law := wl_3 _ (List.mem_of_getElem? (i := 4) rfl)
theorem q_53 : Cond.code yJxa1e45_init_da8c8 cJxa1e45_init_da8c8 1 none ∈ wsL_law := wl_3 _ (List.mem_of_getElem? (i := 5) rfl)
theorem q_54 : Cond.methodLink RJxa1e45 1 objectInit ∈ wsL_law := wl_3 _ (List.mem_of_getElem? (i := 6) rfl)
theorem q_55 : Cond.methodLink RX4 18 yX2_init ∈ wsL_law := wl_3 _ (List.mem_of_getElem? (i := 7) rfl)
theorem q_56 : Cond.instanceMethod yX2_init ∈ wsL_law := wl_3 _ (List.mem_of_getElem? (i := 8) rfl)
theorem q_57 : Cond.code yX2_init cX2_init 2 none ∈ wsL_law := wl_3 _ (List.mem_of_getElem? (i := 9) rfl)
theorem q_58 : Cond.methodLink RX2 3 objectInit ∈ wsL_law := wl_3 _ (List.mem_of_getElem? (i := 10) rfl)
theorem q_59 : Cond.fieldLink RX2 9 "MarketAwnings$Shower" "canopy" "LMarketAwnings$Canopy;" ∈ wsL_law := wl_3 _ (List.mem_of_getElem? (i := 11) rfl)
theorem q_60 : Cond.fieldLink RX2 15 "MarketAwnings$Shower" "fallen" "[I" ∈ wsL_law := wl_3 _ (List.mem_of_getElem? (i := 12) rfl)
theorem q_61 : Cond.fieldLink RX2 19 "MarketAwnings$Shower" "caught" "[I" ∈ wsL_law := wl_3 _ (List.mem_of_getElem? (i := 13) rfl)
theorem q_62 : Cond.fieldLink RX2 22 "MarketAwnings$Shower" "onGround" "I" ∈ wsL_law := wl_3 _ (List.mem_of_getElem? (i := 14) rfl)
theorem q_63 : Cond.fieldLink RX2 26 "MarketAwnings$Shower" "ranOff" "I" ∈ wsL_law := wl_3 _ (List.mem_of_getElem? (i := 15) rfl)
theorem q_64 : Cond.methodLink RX4 27 yJx4a65c_init_da8c8 ∈ wsL_law := wl_3 _ (List.mem_of_getElem? (i := 16) rfl)
theorem q_65 : Cond.methodLink RL 65 yX5_init ∈ wsL_law := wl_3 _ (List.mem_of_getElem? (i := 17) rfl)
theorem q_66 : Cond.instanceMethod yX5_init ∈ wsL_law := wl_3 _ (List.mem_of_getElem? (i := 18) rfl)
theorem q_67 : Cond.code yX5_init cX5_init 1 none ∈ wsL_law := wl_3 _ (List.mem_of_getElem? (i := 19) rfl)
theorem q_68 : Cond.methodLink RX5 1 objectInit ∈ wsL_law := wl_3 _ (List.mem_of_getElem? (i := 20) rfl)
theorem q_69 : Cond.fieldLink RX5 9 "MarketAwningsModel" "sheet" "[I" ∈ wsL_law := wl_3 _ (List.mem_of_getElem? (i := 21) rfl)
theorem q_70 : Cond.fieldLink RX5 13 "MarketAwningsModel" "at" "[I" ∈ wsL_law := wl_3 _ (List.mem_of_getElem? (i := 22) rfl)
theorem q_71 : Cond.fieldLink RX5 16 "MarketAwningsModel" "had" "[I" ∈ wsL_law := wl_3 _ (List.mem_of_getElem? (i := 23) rfl)
theorem q_72 : Cond.fieldLink RX5 19 "MarketAwningsModel" "ground" "[I" ∈ wsL_law := wl_4 _ (List.mem_of_getElem? (i := 0) rfl)
theorem q_73 : Cond.fieldLink RX5 22 "MarketAwningsModel" "fell" "[I" ∈ wsL_law := wl_4 _ (List.mem_of_getElem? (i := 1) rfl)
theorem q_74 : Cond.fieldLink RX5 25 "MarketAwningsModel" "load" "[I" ∈ wsL_law := wl_4 _ (List.mem_of_getElem? (i := 2) rfl)
theorem q_75 : Cond.methodLink RL 66 yL_hang ∈ wsL_law := wl_4 _ (List.mem_of_getElem? (i := 3) rfl)
theorem q_76 : Cond.static yL_hang ∈ wsL_law := wl_4 _ (List.mem_of_getElem? (i := 4) rfl)
theorem q_77 : Cond.initialized RL ∈ wsL_law := wl_4 _ (List.mem_of_getElem? (i := 5) rfl)
theorem q_78 : Cond.codeWith yL_hang cL_hang 9 (some .int) [(0, 18, 21, 13), (0, 18, 25, 15), (0, 18, 29, 17)] ∈ wsL_law := wl_4 _ (List.mem_of_getElem? (i := 6) rfl)
theorem q_79 : Cond.classLink RL 13 "java/lang/IllegalArgumentException" ∈ wsL_law := wl_4 _ (List.mem_of_getElem? (i := 7) rfl)
theorem q_80 : Cond.classLink RL 15 "java/lang/IndexOutOfBoundsException" ∈ wsL_law := wl_4 _ (List.mem_of_getElem? (i := 8) rfl)
theorem q_81 : Cond.classLink RL 17 "java/lang/IllegalStateException" ∈ wsL_law := wl_4 _ (List.mem_of_getElem? (i := 9) rfl)
theorem q_82 : Cond.methodLink RL 7 yX4_hang ∈ wsL_law := wl_4 _ (List.mem_of_getElem? (i := 10) rfl)
theorem q_83 : Cond.instanceMethod yX4_hang ∈ wsL_law := wl_4 _ (List.mem_of_getElem? (i := 11) rfl)
theorem q_84 : Cond.selects RX4 yX4_hang yX4_hang ∈ wsL_law := wl_4 _ (List.mem_of_getElem? (i := 12) rfl)
theorem q_85 : Cond.code yX4_hang cX4_hang 7 (some .int) ∈ wsL_law := wl_4 _ (List.mem_of_getElem? (i := 13) rfl)
theorem q_86 : Cond.classLink RX4 50 "java/lang/IllegalArgumentException" ∈ wsL_law := wl_4 _ (List.mem_of_getElem? (i := 14) rfl)
theorem q_87 : Cond.initialized "java/lang/IllegalArgumentException" ∈ wsL_law := wl_4 _ (List.mem_of_getElem? (i := 15) rfl)
theorem q_88 : Cond.classLink RX4 67 "java/lang/IllegalStateException" ∈ wsL_law := wl_4 _ (List.mem_of_getElem? (i := 16) rfl)
theorem q_89 : Cond.initialized "java/lang/IllegalStateException" ∈ wsL_law := wl_4 _ (List.mem_of_getElem? (i := 17) rfl)
theorem q_90 : Cond.classLink RX4 72 RX0 ∈ wsL_law := wl_4 _ (List.mem_of_getElem? (i := 18) rfl)
theorem q_91 : Cond.instantiable RX0 8 ∈ wsL_law := wl_4 _ (List.mem_of_getElem? (i := 19) rfl)
theorem q_92 : Cond.initialized RX0 ∈ wsL_law := wl_4 _ (List.mem_of_getElem? (i := 20) rfl)
theorem q_93 : Cond.methodLink RX4 46 yX4_requireExtent ∈ wsL_law := wl_4 _ (List.mem_of_getElem? (i := 21) rfl)
theorem q_94 : Cond.static yX4_requireExtent ∈ wsL_law := wl_4 _ (List.mem_of_getElem? (i := 22) rfl)
theorem q_95 : Cond.code yX4_requireExtent cX4_requireExtent 2 none ∈ wsL_law := wl_4 _ (List.mem_of_getElem? (i := 23) rfl)
theorem q_96 : Cond.methodLink RX4 59 yX4_requireRoomInSquare ∈ wsL_law := wl_5 _ (List.mem_of_getElem? (i := 0) rfl)
theorem q_97 : Cond.static yX4_requireRoomInSquare ∈ wsL_law := wl_5 _ (List.mem_of_getElem? (i := 1) rfl)
theorem q_98 : Cond.code yX4_requireRoomInSquare cX4_requireRoomInSquare 4 none ∈ wsL_law := wl_5 _ (List.mem_of_getElem? (i := 2) rfl)
theorem q_99 : Cond.classLink RX4 178 "java/lang/IndexOutOfBoundsException" ∈ wsL_law := wl_5 _ (List.mem_of_getElem? (i := 3) rfl)
theorem q_100 : Cond.initialized "java/lang/IndexOutOfBoundsException" ∈ wsL_law := wl_5 _ (List.mem_of_getElem? (i := 4) rfl)
theorem q_101 : Cond.methodLink RX4 63 yX1_size ∈ wsL_law := wl_5 _ (List.mem_of_getElem? (i := 5) rfl)
theorem q_102 : Cond.instanceMethod yX1_size ∈ wsL_law := wl_5 _ (List.mem_of_getElem? (i := 6) rfl)
theorem q_103 : Cond.selects RX1 yX1_size yX1_size ∈ wsL_law := wl_5 _ (List.mem_of_getElem? (i := 7) rfl)
theorem q_104 : Cond.code yX1_size cX1_size 1 (some .int) ∈ wsL_law := wl_5 _ (List.mem_of_getElem? (i := 8) rfl)
theorem q_105 : Cond.methodLink RX1 32 yJx4a65c_size_8abf5 ∈ wsL_law := wl_5 _ (List.mem_of_getElem? (i := 9) rfl)
theorem q_106 : Cond.instanceMethod yJx4a65c_size_8abf5 ∈ wsL_law := wl_5 _ (List.mem_of_getElem? (i := 10) rfl)
theorem q_107 : Cond.selects RJx4a65c yJx4a65c_size_8abf5 yJx4a65c_size_8abf5 ∈ wsL_law := wl_5 _ (List.mem_of_getElem? (i := 11) rfl)
theorem q_108 : Cond.code yJx4a65c_size_8abf5 cJx4a65c_size_8abf5 1 (some .int) ∈ wsL_law := wl_5 _ (List.mem_of_getElem? (i := 12) rfl)
theorem q_109 : Cond.fieldLink RJx4a65c 48 "java/util/ArrayList" "size" "I" ∈ wsL_law := wl_5 _ (List.mem_of_getElem? (i := 13) rfl)
theorem q_110 : Cond.methodLink RX4 74 yX0_init ∈ wsL_law := wl_5 _ (List.mem_of_getElem? (i := 14) rfl)
theorem q_111 : Cond.instanceMethod yX0_init ∈ wsL_law := wl_5 _ (List.mem_of_getElem? (i := 15) rfl)
theorem q_112 : Cond.code yX0_init cX0_init 7 none ∈ wsL_law := wl_5 _ (List.mem_of_getElem? (i := 16) rfl)
theorem q_113 : Cond.methodLink RX0 3 objectInit ∈ wsL_law := wl_5 _ (List.mem_of_getElem? (i := 17) rfl)
theorem q_114 : Cond.fieldLink RX0 9 "MarketAwnings$Awning" "x" "I" ∈ wsL_law := wl_5 _ (List.mem_of_getElem? (i := 18) rfl)
theorem q_115 : Cond.fieldLink RX0 15 "MarketAwnings$Awning" "y" "I" ∈ wsL_law := wl_5 _ (List.mem_of_getElem? (i := 19) rfl)
theorem q_116 : Cond.fieldLink RX0 18 "MarketAwnings$Awning" "w" "I" ∈ wsL_law := wl_5 _ (List.mem_of_getElem? (i := 20) rfl)
theorem q_117 : Cond.fieldLink RX0 21 "MarketAwnings$Awning" "h" "I" ∈ wsL_law := wl_5 _ (List.mem_of_getElem? (i := 21) rfl)
theorem q_118 : Cond.fieldLink RX0 24 "MarketAwnings$Awning" "level" "I" ∈ wsL_law := wl_5 _ (List.mem_of_getElem? (i := 22) rfl)
theorem q_119 : Cond.fieldLink RX0 27 "MarketAwnings$Awning" "side" "I" ∈ wsL_law := wl_5 _ (List.mem_of_getElem? (i := 23) rfl)
theorem q_120 : Cond.fieldLink RX0 30 "MarketAwnings$Awning" "out" "Z" ∈ wsL_law := wl_6 _ (List.mem_of_getElem? (i := 0) rfl)
theorem q_121 : Cond.fieldLink RX0 34 "MarketAwnings$Awning" "dripped" "I" ∈ wsL_law := wl_6 _ (List.mem_of_getElem? (i := 1) rfl)
theorem q_122 : Cond.methodLink RX4 77 yX1_append ∈ wsL_law := wl_6 _ (List.mem_of_getElem? (i := 2) rfl)
theorem q_123 : Cond.instanceMethod yX1_append ∈ wsL_law := wl_6 _ (List.mem_of_getElem? (i := 3) rfl)
theorem q_124 : Cond.selects RX1 yX1_append yX1_append ∈ wsL_law := wl_6 _ (List.mem_of_getElem? (i := 4) rfl)
theorem q_125 : Cond.code yX1_append cX1_append 2 none ∈ wsL_law := wl_6 _ (List.mem_of_getElem? (i := 5) rfl)
theorem q_126 : Cond.methodLink RX1 53 yJx4a65c_add_9ea2d ∈ wsL_law := wl_6 _ (List.mem_of_getElem? (i := 6) rfl)
theorem q_127 : Cond.instanceMethod yJx4a65c_add_9ea2d ∈ wsL_law := wl_6 _ (List.mem_of_getElem? (i := 7) rfl)
theorem q_128 : Cond.selects RJx4a65c yJx4a65c_add_9ea2d yJx4a65c_add_9ea2d ∈ wsL_law := wl_6 _ (List.mem_of_getElem? (i := 8) rfl)
theorem q_129 : Cond.code yJx4a65c_add_9ea2d cJx4a65c_add_9ea2d 2 (some .boolean) ∈ wsL_law := wl_6 _ (List.mem_of_getElem? (i := 9) rfl)
theorem q_130 : Cond.fieldLink RJx4a65c 63 "java/util/ArrayList" "modCount" "I" ∈ wsL_law := wl_6 _ (List.mem_of_getElem? (i := 10) rfl)
theorem q_131 : Cond.sameField "java/util/ArrayList" "java/util/AbstractList" "modCount" "I" ∈ wsL_law := wl_6 _ (List.mem_of_getElem? (i := 11) rfl)
theorem q_132 : Cond.methodLink RJx4a65c 131 yJx4a65c_add_72be8 ∈ wsL_law := wl_6 _ (List.mem_of_getElem? (i := 12) rfl)
theorem q_133 : Cond.instanceMethod yJx4a65c_add_72be8 ∈ wsL_law := wl_6 _ (List.mem_of_getElem? (i := 13) rfl)
theorem q_134 : Cond.selects RJx4a65c yJx4a65c_add_72be8 yJx4a65c_add_72be8 ∈ wsL_law := wl_6 _ (List.mem_of_getElem? (i := 14) rfl)
theorem q_135 : Cond.code yJx4a65c_add_72be8 cJx4a65c_add_72be8 4 none ∈ wsL_law := wl_6 _ (List.mem_of_getElem? (i := 15) rfl)
theorem q_136 : Cond.methodLink RJx4a65c 129 yJx4a65c_grow_d5877 ∈ wsL_law := wl_6 _ (List.mem_of_getElem? (i := 16) rfl)
theorem q_137 : Cond.instanceMethod yJx4a65c_grow_d5877 ∈ wsL_law := wl_6 _ (List.mem_of_getElem? (i := 17) rfl)
theorem q_138 : Cond.selects RJx4a65c yJx4a65c_grow_d5877 yJx4a65c_grow_d5877 ∈ wsL_law := wl_6 _ (List.mem_of_getElem? (i := 18) rfl)
theorem q_139 : Cond.code yJx4a65c_grow_d5877 cJx4a65c_grow_d5877 1 (some (.array (.object "java/lang/Object"))) ∈ wsL_law := wl_6 _ (List.mem_of_getElem? (i := 19) rfl)
theorem q_140 : Cond.methodLink RJx4a65c 69 yJx4a65c_grow_92f84 ∈ wsL_law := wl_6 _ (List.mem_of_getElem? (i := 20) rfl)
theorem q_141 : Cond.instanceMethod yJx4a65c_grow_92f84 ∈ wsL_law := wl_6 _ (List.mem_of_getElem? (i := 21) rfl)
theorem q_142 : Cond.selects RJx4a65c yJx4a65c_grow_92f84 yJx4a65c_grow_92f84 ∈ wsL_law := wl_6 _ (List.mem_of_getElem? (i := 22) rfl)
theorem q_143 : Cond.code yJx4a65c_grow_92f84 cJx4a65c_grow_92f84 4 (some (.array (.object "java/lang/Object"))) ∈ wsL_law := wl_6 _ (List.mem_of_getElem? (i := 23) rfl)
theorem q_144 : Cond.methodLink RJx4a65c 79 Lib.Math.max.name ∈ wsL_law := wl_7 _ (List.mem_of_getElem? (i := 0) rfl)
theorem q_145 : Cond.static Lib.Math.max.name ∈ wsL_law := wl_7 _ (List.mem_of_getElem? (i := 1) rfl)
theorem q_146 : Cond.initialized "java/lang/Math" ∈ wsL_law := wl_7 _ (List.mem_of_getElem? (i := 2) rfl)
theorem q_147 : Cond.code Lib.Math.max.name Lib.Math.max.code 2 (some .int) ∈ wsL_law := wl_7 _ (List.mem_of_getElem? (i := 3) rfl)
theorem q_148 : Cond.classLink RJx4a65c 7 "java/lang/Object" ∈ wsL_law := wl_7 _ (List.mem_of_getElem? (i := 4) rfl)
theorem q_149 : Cond.methodLink RJx4a65c 73 yJ8_newLength_cabcc ∈ wsL_law := wl_7 _ (List.mem_of_getElem? (i := 5) rfl)
theorem q_150 : Cond.static yJ8_newLength_cabcc ∈ wsL_law := wl_7 _ (List.mem_of_getElem? (i := 6) rfl)
theorem q_151 : Cond.initialized RJ8 ∈ wsL_law := wl_7 _ (List.mem_of_getElem? (i := 7) rfl)
theorem q_152 : Cond.code yJ8_newLength_cabcc cJ8_newLength_cabcc 4 (some .int) ∈ wsL_law := wl_7 _ (List.mem_of_getElem? (i := 8) rfl)
theorem q_153 : Cond.methodLink RJ8 194 Lib.Math.max.name ∈ wsL_law := wl_7 _ (List.mem_of_getElem? (i := 9) rfl)
theorem q_154 : Cond.constant RJ8 200 (2147483639) ∈ wsL_law := wl_7 _ (List.mem_of_getElem? (i := 10) rfl)
theorem q_155 : Cond.methodLink RJ8 201 yJ8_hugeLength_7cf53 ∈ wsL_law := wl_7 _ (List.mem_of_getElem? (i := 11) rfl)
theorem q_156 : Cond.static yJ8_hugeLength_7cf53 ∈ wsL_law := wl_7 _ (List.mem_of_getElem? (i := 12) rfl)
theorem q_157 : Cond.code yJ8_hugeLength_7cf53 cJ8_hugeLength_7cf53 3 (some .int) ∈ wsL_law := wl_7 _ (List.mem_of_getElem? (i := 13) rfl)
theorem q_158 : Cond.methodLink RJx4a65c 66 yJ7_copyOf_1904c ∈ wsL_law := wl_7 _ (List.mem_of_getElem? (i := 14) rfl)
theorem q_159 : Cond.static yJ7_copyOf_1904c ∈ wsL_law := wl_7 _ (List.mem_of_getElem? (i := 15) rfl)
theorem q_160 : Cond.initialized RJ7 ∈ wsL_law := wl_7 _ (List.mem_of_getElem? (i := 16) rfl)
theorem q_161 : Cond.code yJ7_copyOf_1904c cJ7_copyOf_1904c 2 (some (.array (.object "java/lang/Object"))) ∈ wsL_law := wl_7 _ (List.mem_of_getElem? (i := 17) rfl)
theorem q_162 : Cond.methodLink RJ7 86 ⟨"java/lang/Object", "getClass", "()Ljava/lang/Class;"⟩ ∈ wsL_law := wl_7 _ (List.mem_of_getElem? (i := 18) rfl)
theorem q_163 : Cond.selects "[Ljava/lang/Object;" ⟨"java/lang/Object", "getClass", "()Ljava/lang/Class;"⟩ ⟨"java/lang/Object", "getClass", "()Ljava/lang/Class;"⟩ ∈ wsL_law := wl_7 _ (List.mem_of_getElem? (i := 19) rfl)
theorem q_164 : Cond.instanceMethod ⟨"java/lang/Object", "getClass", "()Ljava/lang/Class;"⟩ ∈ wsL_law := wl_7 _ (List.mem_of_getElem? (i := 20) rfl)
theorem q_165 : Cond.native ⟨"java/lang/Object", "getClass", "()Ljava/lang/Class;"⟩ ∈ wsL_law := wl_7 _ (List.mem_of_getElem? (i := 21) rfl)
theorem q_166 : Cond.methodLink RJ7 300 yJ7_copyOf_6403c ∈ wsL_law := wl_7 _ (List.mem_of_getElem? (i := 22) rfl)
theorem q_167 : Cond.static yJ7_copyOf_6403c ∈ wsL_law := wl_7 _ (List.mem_of_getElem? (i := 23) rfl)
theorem q_168 : Cond.code yJ7_copyOf_6403c cJ7_copyOf_6403c 4 (some (.array (.object "java/lang/Object"))) ∈ wsL_law := wl_8 _ (List.mem_of_getElem? (i := 0) rfl)
theorem q_169 : Cond.classLink RJ7 110 "[Ljava/lang/Object;" ∈ wsL_law := wl_8 _ (List.mem_of_getElem? (i := 1) rfl)
theorem q_170 : Cond.classLink RJ7 2 "java/lang/Object" ∈ wsL_law := wl_8 _ (List.mem_of_getElem? (i := 2) rfl)
theorem q_171 : Cond.methodLink RJ7 304 Lib.Math.min.name ∈ wsL_law := wl_8 _ (List.mem_of_getElem? (i := 3) rfl)
theorem q_172 : Cond.static Lib.Math.min.name ∈ wsL_law := wl_8 _ (List.mem_of_getElem? (i := 4) rfl)
theorem q_173 : Cond.code Lib.Math.min.name Lib.Math.min.code 2 (some .int) ∈ wsL_law := wl_8 _ (List.mem_of_getElem? (i := 5) rfl)
theorem q_174 : Cond.methodLink RJ7 150 arraycopyName ∈ wsL_law := wl_8 _ (List.mem_of_getElem? (i := 6) rfl)
theorem q_175 : Cond.native arraycopyName ∈ wsL_law := wl_8 _ (List.mem_of_getElem? (i := 7) rfl)
theorem q_176 : Cond.static arraycopyName ∈ wsL_law := wl_8 _ (List.mem_of_getElem? (i := 8) rfl)
theorem q_177 : Cond.initialized "java/lang/System" ∈ wsL_law := wl_8 _ (List.mem_of_getElem? (i := 9) rfl)
theorem q_178 : Cond.methodLink RX1 57 yX1_layOut ∈ wsL_law := wl_8 _ (List.mem_of_getElem? (i := 10) rfl)
theorem q_179 : Cond.instanceMethod yX1_layOut ∈ wsL_law := wl_8 _ (List.mem_of_getElem? (i := 11) rfl)
theorem q_180 : Cond.selects RX1 yX1_layOut yX1_layOut ∈ wsL_law := wl_8 _ (List.mem_of_getElem? (i := 12) rfl)
theorem q_181 : Cond.code yX1_layOut cX1_layOut 2 none ∈ wsL_law := wl_8 _ (List.mem_of_getElem? (i := 13) rfl)
theorem q_182 : Cond.classLink RX1 40 "MarketAwnings$Awning" ∈ wsL_law := wl_8 _ (List.mem_of_getElem? (i := 14) rfl)
theorem q_183 : Cond.fieldLink RX1 42 "MarketAwnings$Awning" "out" "Z" ∈ wsL_law := wl_8 _ (List.mem_of_getElem? (i := 15) rfl)
theorem q_184 : Cond.methodLink RX1 63 yJ7_fill_53178 ∈ wsL_law := wl_8 _ (List.mem_of_getElem? (i := 16) rfl)
theorem q_185 : Cond.static yJ7_fill_53178 ∈ wsL_law := wl_8 _ (List.mem_of_getElem? (i := 17) rfl)
theorem q_186 : Cond.code yJ7_fill_53178 cJ7_fill_53178 4 none ∈ wsL_law := wl_8 _ (List.mem_of_getElem? (i := 18) rfl)
theorem q_187 : Cond.methodLink RX1 36 yJx4a65c_get_915e3 ∈ wsL_law := wl_8 _ (List.mem_of_getElem? (i := 19) rfl)
theorem q_188 : Cond.instanceMethod yJx4a65c_get_915e3 ∈ wsL_law := wl_8 _ (List.mem_of_getElem? (i := 20) rfl)
theorem q_189 : Cond.selects RJx4a65c yJx4a65c_get_915e3 yJx4a65c_get_915e3 ∈ wsL_law := wl_8 _ (List.mem_of_getElem? (i := 21) rfl)
theorem q_190 : Cond.code yJx4a65c_get_915e3 cJx4a65c_get_915e3 2 (some (.object "java/lang/Object")) ∈ wsL_law := wl_8 _ (List.mem_of_getElem? (i := 22) rfl)
theorem q_191 : Cond.methodLink RJx4a65c 118 yJ15_checkIndex_7cf53 ∈ wsL_law := wl_8 _ (List.mem_of_getElem? (i := 23) rfl)
theorem q_192 : Cond.static yJ15_checkIndex_7cf53 ∈ wsL_law := wl_9 _ (List.mem_of_getElem? (i := 0) rfl)
theorem q_193 : Cond.initialized RJ15 ∈ wsL_law := wl_9 _ (List.mem_of_getElem? (i := 1) rfl)
theorem q_194 : Cond.code yJ15_checkIndex_7cf53 cJ15_checkIndex_7cf53 2 (some .int) ∈ wsL_law := wl_9 _ (List.mem_of_getElem? (i := 2) rfl)
theorem q_195 : Cond.methodLink RJ15 105 yJ3_checkIndex_8e157 ∈ wsL_law := wl_9 _ (List.mem_of_getElem? (i := 3) rfl)
theorem q_196 : Cond.static yJ3_checkIndex_8e157 ∈ wsL_law := wl_9 _ (List.mem_of_getElem? (i := 4) rfl)
theorem q_197 : Cond.initialized RJ3 ∈ wsL_law := wl_9 _ (List.mem_of_getElem? (i := 5) rfl)
theorem q_198 : Cond.code yJ3_checkIndex_8e157 cJ3_checkIndex_8e157 3 (some .int) ∈ wsL_law := wl_9 _ (List.mem_of_getElem? (i := 6) rfl)
theorem q_199 : Cond.methodLink RJx4a65c 123 yJx4a65c_elementData_915e3 ∈ wsL_law := wl_9 _ (List.mem_of_getElem? (i := 7) rfl)
theorem q_200 : Cond.instanceMethod yJx4a65c_elementData_915e3 ∈ wsL_law := wl_9 _ (List.mem_of_getElem? (i := 8) rfl)
theorem q_201 : Cond.selects RJx4a65c yJx4a65c_elementData_915e3 yJx4a65c_elementData_915e3 ∈ wsL_law := wl_9 _ (List.mem_of_getElem? (i := 9) rfl)
theorem q_202 : Cond.code yJx4a65c_elementData_915e3 cJx4a65c_elementData_915e3 2 (some (.object "java/lang/Object")) ∈ wsL_law := wl_9 _ (List.mem_of_getElem? (i := 10) rfl)
theorem q_203 : Cond.methodLink RX1 69 yX1_layOver ∈ wsL_law := wl_9 _ (List.mem_of_getElem? (i := 11) rfl)
theorem q_204 : Cond.instanceMethod yX1_layOver ∈ wsL_law := wl_9 _ (List.mem_of_getElem? (i := 12) rfl)
theorem q_205 : Cond.selects RX1 yX1_layOver yX1_layOver ∈ wsL_law := wl_9 _ (List.mem_of_getElem? (i := 13) rfl)
theorem q_206 : Cond.code yX1_layOver cX1_layOver 4 none ∈ wsL_law := wl_9 _ (List.mem_of_getElem? (i := 14) rfl)
theorem q_207 : Cond.fieldLink RX1 73 "MarketAwnings$Awning" "y" "I" ∈ wsL_law := wl_9 _ (List.mem_of_getElem? (i := 15) rfl)
theorem q_208 : Cond.fieldLink RX1 76 "MarketAwnings$Awning" "h" "I" ∈ wsL_law := wl_9 _ (List.mem_of_getElem? (i := 16) rfl)
theorem q_209 : Cond.fieldLink RX1 79 "MarketAwnings$Awning" "x" "I" ∈ wsL_law := wl_9 _ (List.mem_of_getElem? (i := 17) rfl)
theorem q_210 : Cond.fieldLink RX1 82 "MarketAwnings$Awning" "w" "I" ∈ wsL_law := wl_9 _ (List.mem_of_getElem? (i := 18) rfl)
theorem q_211 : Cond.static yX4_isCell ∈ wsL_law := wl_9 _ (List.mem_of_getElem? (i := 19) rfl)
theorem q_212 : Cond.code yX4_isCell cX4_isCell 2 (some .boolean) ∈ wsL_law := wl_9 _ (List.mem_of_getElem? (i := 20) rfl)
theorem q_213 : Cond.methodLink RL 71 yX5_hang ∈ wsL_law := wl_9 _ (List.mem_of_getElem? (i := 21) rfl)
theorem q_214 : Cond.instanceMethod yX5_hang ∈ wsL_law := wl_9 _ (List.mem_of_getElem? (i := 22) rfl)
theorem q_215 : Cond.selects RX5 yX5_hang yX5_hang ∈ wsL_law := wl_9 _ (List.mem_of_getElem? (i := 23) rfl)
theorem q_216 : Cond.code yX5_hang cX5_hang 8 (some .int) ∈ wsL_law := wl_10 _ (List.mem_of_getElem? (i := 0) rfl)
theorem q_217 : Cond.fieldLink RX5 28 "MarketAwningsModel" "thrown" "I" ∈ wsL_law := wl_10 _ (List.mem_of_getElem? (i := 1) rfl)
theorem q_218 : Cond.fieldLink RX5 36 "MarketAwningsModel" "awnings" "I" ∈ wsL_law := wl_10 _ (List.mem_of_getElem? (i := 2) rfl)
theorem q_219 : Cond.methodLink RX5 85 arraycopyName ∈ wsL_law := wl_10 _ (List.mem_of_getElem? (i := 3) rfl)
theorem q_220 : Cond.methodLink RX5 32 yX5_isIn ∈ wsL_law := wl_10 _ (List.mem_of_getElem? (i := 4) rfl)
theorem q_221 : Cond.static yX5_isIn ∈ wsL_law := wl_10 _ (List.mem_of_getElem? (i := 5) rfl)
theorem q_222 : Cond.code yX5_isIn cX5_isIn 3 (some .boolean) ∈ wsL_law := wl_10 _ (List.mem_of_getElem? (i := 6) rfl)
theorem q_223 : Cond.methodLink RX5 78 yX5_no ∈ wsL_law := wl_10 _ (List.mem_of_getElem? (i := 7) rfl)
theorem q_224 : Cond.instanceMethod yX5_no ∈ wsL_law := wl_10 _ (List.mem_of_getElem? (i := 8) rfl)
theorem q_225 : Cond.selects RX5 yX5_no yX5_no ∈ wsL_law := wl_10 _ (List.mem_of_getElem? (i := 9) rfl)
theorem q_226 : Cond.code yX5_no cX5_no 2 (some .int) ∈ wsL_law := wl_10 _ (List.mem_of_getElem? (i := 10) rfl)
theorem q_227 : Cond.methodLink RX5 81 yX5_fits ∈ wsL_law := wl_10 _ (List.mem_of_getElem? (i := 11) rfl)
theorem q_228 : Cond.static yX5_fits ∈ wsL_law := wl_10 _ (List.mem_of_getElem? (i := 12) rfl)
theorem q_229 : Cond.code yX5_fits cX5_fits 4 (some .boolean) ∈ wsL_law := wl_10 _ (List.mem_of_getElem? (i := 13) rfl)
theorem q_230 : Cond.methodLink RL 72 yX5_thrown ∈ wsL_law := wl_10 _ (List.mem_of_getElem? (i := 14) rfl)
theorem q_231 : Cond.instanceMethod yX5_thrown ∈ wsL_law := wl_10 _ (List.mem_of_getElem? (i := 15) rfl)
theorem q_232 : Cond.selects RX5 yX5_thrown yX5_thrown ∈ wsL_law := wl_10 _ (List.mem_of_getElem? (i := 16) rfl)
theorem q_233 : Cond.code yX5_thrown cX5_thrown 1 (some .int) ∈ wsL_law := wl_10 _ (List.mem_of_getElem? (i := 17) rfl)
theorem q_234 : Cond.methodLink RL 76 yL_roll ∈ wsL_law := wl_10 _ (List.mem_of_getElem? (i := 18) rfl)
theorem q_235 : Cond.static yL_roll ∈ wsL_law := wl_10 _ (List.mem_of_getElem? (i := 19) rfl)
theorem q_236 : Cond.codeWith yL_roll cL_roll 4 (some .int) [(0, 16, 19, 15)] ∈ wsL_law := wl_10 _ (List.mem_of_getElem? (i := 20) rfl)
theorem q_237 : Cond.methodLink RL 19 yX4_roll ∈ wsL_law := wl_10 _ (List.mem_of_getElem? (i := 21) rfl)
theorem q_238 : Cond.instanceMethod yX4_roll ∈ wsL_law := wl_10 _ (List.mem_of_getElem? (i := 22) rfl)
theorem q_239 : Cond.selects RX4 yX4_roll yX4_roll ∈ wsL_law := wl_10 _ (List.mem_of_getElem? (i := 23) rfl)
theorem q_240 : Cond.code yX4_roll cX4_roll 3 (some .boolean) ∈ wsL_law := wl_11 _ (List.mem_of_getElem? (i := 0) rfl)
theorem q_241 : Cond.fieldLink RX4 85 "MarketAwnings$Awning" "out" "Z" ∈ wsL_law := wl_11 _ (List.mem_of_getElem? (i := 1) rfl)
theorem q_242 : Cond.methodLink RX4 81 yX1_numbered ∈ wsL_law := wl_11 _ (List.mem_of_getElem? (i := 2) rfl)
theorem q_243 : Cond.instanceMethod yX1_numbered ∈ wsL_law := wl_11 _ (List.mem_of_getElem? (i := 3) rfl)
theorem q_244 : Cond.selects RX1 yX1_numbered yX1_numbered ∈ wsL_law := wl_11 _ (List.mem_of_getElem? (i := 4) rfl)
theorem q_245 : Cond.code yX1_numbered cX1_numbered 2 (some (.object "MarketAwnings$Awning")) ∈ wsL_law := wl_11 _ (List.mem_of_getElem? (i := 5) rfl)
theorem q_246 : Cond.classLink RX1 46 "java/lang/IndexOutOfBoundsException" ∈ wsL_law := wl_11 _ (List.mem_of_getElem? (i := 6) rfl)
theorem q_247 : Cond.methodLink RX4 89 yX1_layOut ∈ wsL_law := wl_11 _ (List.mem_of_getElem? (i := 7) rfl)
theorem q_248 : Cond.methodLink RL 79 yX5_roll ∈ wsL_law := wl_11 _ (List.mem_of_getElem? (i := 8) rfl)
theorem q_249 : Cond.instanceMethod yX5_roll ∈ wsL_law := wl_11 _ (List.mem_of_getElem? (i := 9) rfl)
theorem q_250 : Cond.selects RX5 yX5_roll yX5_roll ∈ wsL_law := wl_11 _ (List.mem_of_getElem? (i := 10) rfl)
theorem q_251 : Cond.code yX5_roll cX5_roll 2 (some .boolean) ∈ wsL_law := wl_11 _ (List.mem_of_getElem? (i := 11) rfl)
theorem q_252 : Cond.methodLink RX5 91 yX5_isAwning ∈ wsL_law := wl_11 _ (List.mem_of_getElem? (i := 12) rfl)
theorem q_253 : Cond.instanceMethod yX5_isAwning ∈ wsL_law := wl_11 _ (List.mem_of_getElem? (i := 13) rfl)
theorem q_254 : Cond.selects RX5 yX5_isAwning yX5_isAwning ∈ wsL_law := wl_11 _ (List.mem_of_getElem? (i := 14) rfl)
theorem q_255 : Cond.code yX5_isAwning cX5_isAwning 2 (some .boolean) ∈ wsL_law := wl_11 _ (List.mem_of_getElem? (i := 15) rfl)
theorem q_256 : Cond.methodLink RX5 42 yX5_of ∈ wsL_law := wl_11 _ (List.mem_of_getElem? (i := 16) rfl)
theorem q_257 : Cond.instanceMethod yX5_of ∈ wsL_law := wl_11 _ (List.mem_of_getElem? (i := 17) rfl)
theorem q_258 : Cond.selects RX5 yX5_of yX5_of ∈ wsL_law := wl_11 _ (List.mem_of_getElem? (i := 18) rfl)
theorem q_259 : Cond.code yX5_of cX5_of 3 (some .int) ∈ wsL_law := wl_11 _ (List.mem_of_getElem? (i := 19) rfl)
theorem q_260 : Cond.methodLink RX5 46 yX5_isOut ∈ wsL_law := wl_11 _ (List.mem_of_getElem? (i := 20) rfl)
theorem q_261 : Cond.instanceMethod yX5_isOut ∈ wsL_law := wl_11 _ (List.mem_of_getElem? (i := 21) rfl)
theorem q_262 : Cond.selects RX5 yX5_isOut yX5_isOut ∈ wsL_law := wl_11 _ (List.mem_of_getElem? (i := 22) rfl)
theorem q_263 : Cond.code yX5_isOut cX5_isOut 2 (some .boolean) ∈ wsL_law := wl_11 _ (List.mem_of_getElem? (i := 23) rfl)
theorem q_264 : Cond.methodLink RL 80 yL_move ∈ wsL_law := wl_12 _ (List.mem_of_getElem? (i := 0) rfl)
theorem q_265 : Cond.static yL_move ∈ wsL_law := wl_12 _ (List.mem_of_getElem? (i := 1) rfl)
theorem q_266 : Cond.codeWith yL_move cL_move 6 (some .int) [(0, 12, 15, 15)] ∈ wsL_law := wl_12 _ (List.mem_of_getElem? (i := 2) rfl)
theorem q_267 : Cond.methodLink RL 23 yX4_move ∈ wsL_law := wl_12 _ (List.mem_of_getElem? (i := 3) rfl)
theorem q_268 : Cond.instanceMethod yX4_move ∈ wsL_law := wl_12 _ (List.mem_of_getElem? (i := 4) rfl)
theorem q_269 : Cond.selects RX4 yX4_move yX4_move ∈ wsL_law := wl_12 _ (List.mem_of_getElem? (i := 5) rfl)
theorem q_270 : Cond.code yX4_move cX4_move 5 (some .int) ∈ wsL_law := wl_12 _ (List.mem_of_getElem? (i := 6) rfl)
theorem q_271 : Cond.fieldLink RX4 92 "MarketAwnings$Awning" "w" "I" ∈ wsL_law := wl_12 _ (List.mem_of_getElem? (i := 7) rfl)
theorem q_272 : Cond.fieldLink RX4 95 "MarketAwnings$Awning" "h" "I" ∈ wsL_law := wl_12 _ (List.mem_of_getElem? (i := 8) rfl)
theorem q_273 : Cond.fieldLink RX4 98 "MarketAwnings$Awning" "x" "I" ∈ wsL_law := wl_12 _ (List.mem_of_getElem? (i := 9) rfl)
theorem q_274 : Cond.fieldLink RX4 101 "MarketAwnings$Awning" "y" "I" ∈ wsL_law := wl_12 _ (List.mem_of_getElem? (i := 10) rfl)
theorem q_275 : Cond.methodLink RX4 104 yX1_covered ∈ wsL_law := wl_12 _ (List.mem_of_getElem? (i := 11) rfl)
theorem q_276 : Cond.instanceMethod yX1_covered ∈ wsL_law := wl_12 _ (List.mem_of_getElem? (i := 12) rfl)
theorem q_277 : Cond.selects RX1 yX1_covered yX1_covered ∈ wsL_law := wl_12 _ (List.mem_of_getElem? (i := 13) rfl)
theorem q_278 : Cond.code yX1_covered cX1_covered 1 (some .int) ∈ wsL_law := wl_12 _ (List.mem_of_getElem? (i := 14) rfl)
theorem q_279 : Cond.methodLink RX1 95 yX1_cellsWithLayers ∈ wsL_law := wl_12 _ (List.mem_of_getElem? (i := 15) rfl)
theorem q_280 : Cond.instanceMethod yX1_cellsWithLayers ∈ wsL_law := wl_12 _ (List.mem_of_getElem? (i := 16) rfl)
theorem q_281 : Cond.selects RX1 yX1_cellsWithLayers yX1_cellsWithLayers ∈ wsL_law := wl_12 _ (List.mem_of_getElem? (i := 17) rfl)
theorem q_282 : Cond.code yX1_cellsWithLayers cX1_cellsWithLayers 4 (some .int) ∈ wsL_law := wl_12 _ (List.mem_of_getElem? (i := 18) rfl)
theorem q_283 : Cond.methodLink RL 83 yX5_move ∈ wsL_law := wl_12 _ (List.mem_of_getElem? (i := 19) rfl)
theorem q_284 : Cond.instanceMethod yX5_move ∈ wsL_law := wl_12 _ (List.mem_of_getElem? (i := 20) rfl)
theorem q_285 : Cond.selects RX5 yX5_move yX5_move ∈ wsL_law := wl_12 _ (List.mem_of_getElem? (i := 21) rfl)
theorem q_286 : Cond.code yX5_move cX5_move 4 (some .int) ∈ wsL_law := wl_12 _ (List.mem_of_getElem? (i := 22) rfl)
theorem q_287 : Cond.methodLink RX5 94 yX5_counted ∈ wsL_law := wl_12 _ (List.mem_of_getElem? (i := 23) rfl)
theorem q_288 : Cond.instanceMethod yX5_counted ∈ wsL_law := wl_13 _ (List.mem_of_getElem? (i := 0) rfl)
theorem q_289 : Cond.selects RX5 yX5_counted yX5_counted ∈ wsL_law := wl_13 _ (List.mem_of_getElem? (i := 1) rfl)
theorem q_290 : Cond.code yX5_counted cX5_counted 2 (some .int) ∈ wsL_law := wl_13 _ (List.mem_of_getElem? (i := 2) rfl)
theorem q_291 : Cond.fieldLink RX5 39 "MarketAwningsModel" "stalls" "I" ∈ wsL_law := wl_13 _ (List.mem_of_getElem? (i := 3) rfl)
theorem q_292 : Cond.fieldLink RX5 106 "MarketAwningsModel" "hours" "I" ∈ wsL_law := wl_13 _ (List.mem_of_getElem? (i := 4) rfl)
theorem q_293 : Cond.fieldLink RX5 103 "MarketAwningsModel" "ranOff" "I" ∈ wsL_law := wl_13 _ (List.mem_of_getElem? (i := 5) rfl)
theorem q_294 : Cond.methodLink RX5 153 yX5_out ∈ wsL_law := wl_13 _ (List.mem_of_getElem? (i := 6) rfl)
theorem q_295 : Cond.instanceMethod yX5_out ∈ wsL_law := wl_13 _ (List.mem_of_getElem? (i := 7) rfl)
theorem q_296 : Cond.selects RX5 yX5_out yX5_out ∈ wsL_law := wl_13 _ (List.mem_of_getElem? (i := 8) rfl)
theorem q_297 : Cond.code yX5_out cX5_out 3 (some .int) ∈ wsL_law := wl_13 _ (List.mem_of_getElem? (i := 9) rfl)
theorem q_298 : Cond.methodLink RX5 157 yX5_outline ∈ wsL_law := wl_13 _ (List.mem_of_getElem? (i := 10) rfl)
theorem q_299 : Cond.instanceMethod yX5_outline ∈ wsL_law := wl_13 _ (List.mem_of_getElem? (i := 11) rfl)
theorem q_300 : Cond.selects RX5 yX5_outline yX5_outline ∈ wsL_law := wl_13 _ (List.mem_of_getElem? (i := 12) rfl)
theorem q_301 : Cond.code yX5_outline cX5_outline 4 (some .int) ∈ wsL_law := wl_13 _ (List.mem_of_getElem? (i := 13) rfl)
theorem q_302 : Cond.methodLink RX5 129 yX5_covered_ ∈ wsL_law := wl_13 _ (List.mem_of_getElem? (i := 14) rfl)
theorem q_303 : Cond.instanceMethod yX5_covered_ ∈ wsL_law := wl_13 _ (List.mem_of_getElem? (i := 15) rfl)
theorem q_304 : Cond.selects RX5 yX5_covered_ yX5_covered_ ∈ wsL_law := wl_13 _ (List.mem_of_getElem? (i := 16) rfl)
theorem q_305 : Cond.code yX5_covered_ cX5_covered_ 2 (some .int) ∈ wsL_law := wl_13 _ (List.mem_of_getElem? (i := 17) rfl)
theorem q_306 : Cond.methodLink RX5 56 yX5_covered ∈ wsL_law := wl_13 _ (List.mem_of_getElem? (i := 18) rfl)
theorem q_307 : Cond.instanceMethod yX5_covered ∈ wsL_law := wl_13 _ (List.mem_of_getElem? (i := 19) rfl)
theorem q_308 : Cond.selects RX5 yX5_covered yX5_covered ∈ wsL_law := wl_13 _ (List.mem_of_getElem? (i := 20) rfl)
theorem q_309 : Cond.code yX5_covered cX5_covered 5 (some .int) ∈ wsL_law := wl_13 _ (List.mem_of_getElem? (i := 21) rfl)
theorem q_310 : Cond.methodLink RX5 53 yX5_bits ∈ wsL_law := wl_13 _ (List.mem_of_getElem? (i := 22) rfl)
theorem q_311 : Cond.instanceMethod yX5_bits ∈ wsL_law := wl_13 _ (List.mem_of_getElem? (i := 23) rfl)
theorem q_312 : Cond.selects RX5 yX5_bits yX5_bits ∈ wsL_law := wl_14 _ (List.mem_of_getElem? (i := 0) rfl)
theorem q_313 : Cond.code yX5_bits cX5_bits 3 (some .int) ∈ wsL_law := wl_14 _ (List.mem_of_getElem? (i := 1) rfl)
theorem q_314 : Cond.methodLink RX5 50 yX5_rows ∈ wsL_law := wl_14 _ (List.mem_of_getElem? (i := 2) rfl)
theorem q_315 : Cond.static yX5_rows ∈ wsL_law := wl_14 _ (List.mem_of_getElem? (i := 3) rfl)
theorem q_316 : Cond.code yX5_rows cX5_rows 2 (some .int) ∈ wsL_law := wl_14 _ (List.mem_of_getElem? (i := 4) rfl)
theorem q_317 : Cond.methodLink RX5 109 yX5_many ∈ wsL_law := wl_14 _ (List.mem_of_getElem? (i := 5) rfl)
theorem q_318 : Cond.static yX5_many ∈ wsL_law := wl_14 _ (List.mem_of_getElem? (i := 6) rfl)
theorem q_319 : Cond.code yX5_many cX5_many 3 (some .int) ∈ wsL_law := wl_14 _ (List.mem_of_getElem? (i := 7) rfl)
theorem q_320 : Cond.methodLink RX5 160 yX5_parts ∈ wsL_law := wl_14 _ (List.mem_of_getElem? (i := 8) rfl)
theorem q_321 : Cond.instanceMethod yX5_parts ∈ wsL_law := wl_14 _ (List.mem_of_getElem? (i := 9) rfl)
theorem q_322 : Cond.selects RX5 yX5_parts yX5_parts ∈ wsL_law := wl_14 _ (List.mem_of_getElem? (i := 10) rfl)
theorem q_323 : Cond.code yX5_parts cX5_parts 7 (some .int) ∈ wsL_law := wl_14 _ (List.mem_of_getElem? (i := 11) rfl)
theorem q_324 : Cond.methodLink RX5 149 yX5_spreads ∈ wsL_law := wl_14 _ (List.mem_of_getElem? (i := 12) rfl)
theorem q_325 : Cond.static yX5_spreads ∈ wsL_law := wl_14 _ (List.mem_of_getElem? (i := 13) rfl)
theorem q_326 : Cond.code yX5_spreads cX5_spreads 5 (some .boolean) ∈ wsL_law := wl_14 _ (List.mem_of_getElem? (i := 14) rfl)
theorem q_327 : Cond.methodLink RX5 163 yX5_open ∈ wsL_law := wl_14 _ (List.mem_of_getElem? (i := 15) rfl)
theorem q_328 : Cond.instanceMethod yX5_open ∈ wsL_law := wl_14 _ (List.mem_of_getElem? (i := 16) rfl)
theorem q_329 : Cond.selects RX5 yX5_open yX5_open ∈ wsL_law := wl_14 _ (List.mem_of_getElem? (i := 17) rfl)
theorem q_330 : Cond.code yX5_open cX5_open 3 (some .int) ∈ wsL_law := wl_14 _ (List.mem_of_getElem? (i := 18) rfl)
theorem q_331 : Cond.methodLink RX5 146 yX5_stallTold ∈ wsL_law := wl_14 _ (List.mem_of_getElem? (i := 19) rfl)
theorem q_332 : Cond.instanceMethod yX5_stallTold ∈ wsL_law := wl_14 _ (List.mem_of_getElem? (i := 20) rfl)
theorem q_333 : Cond.selects RX5 yX5_stallTold yX5_stallTold ∈ wsL_law := wl_14 _ (List.mem_of_getElem? (i := 21) rfl)
theorem q_334 : Cond.code yX5_stallTold cX5_stallTold 3 (some .int) ∈ wsL_law := wl_14 _ (List.mem_of_getElem? (i := 22) rfl)
theorem q_335 : Cond.methodLink RX5 140 yX5_got ∈ wsL_law := wl_14 _ (List.mem_of_getElem? (i := 23) rfl)
theorem q_336 : Cond.instanceMethod yX5_got ∈ wsL_law := wl_15 _ (List.mem_of_getElem? (i := 0) rfl)
theorem q_337 : Cond.selects RX5 yX5_got yX5_got ∈ wsL_law := wl_15 _ (List.mem_of_getElem? (i := 1) rfl)
theorem q_338 : Cond.code yX5_got cX5_got 2 (some .int) ∈ wsL_law := wl_15 _ (List.mem_of_getElem? (i := 2) rfl)
theorem q_339 : Cond.methodLink RX5 118 yX5_lying ∈ wsL_law := wl_15 _ (List.mem_of_getElem? (i := 3) rfl)
theorem q_340 : Cond.instanceMethod yX5_lying ∈ wsL_law := wl_15 _ (List.mem_of_getElem? (i := 4) rfl)
theorem q_341 : Cond.selects RX5 yX5_lying yX5_lying ∈ wsL_law := wl_15 _ (List.mem_of_getElem? (i := 5) rfl)
theorem q_342 : Cond.code yX5_lying cX5_lying 5 (some .int) ∈ wsL_law := wl_15 _ (List.mem_of_getElem? (i := 6) rfl)
theorem q_343 : Cond.methodLink RX5 166 yX5_sumOf ∈ wsL_law := wl_15 _ (List.mem_of_getElem? (i := 7) rfl)
theorem q_344 : Cond.instanceMethod yX5_sumOf ∈ wsL_law := wl_15 _ (List.mem_of_getElem? (i := 8) rfl)
theorem q_345 : Cond.selects RX5 yX5_sumOf yX5_sumOf ∈ wsL_law := wl_15 _ (List.mem_of_getElem? (i := 9) rfl)
theorem q_346 : Cond.code yX5_sumOf cX5_sumOf 5 (some .int) ∈ wsL_law := wl_15 _ (List.mem_of_getElem? (i := 10) rfl)
theorem q_347 : Cond.methodLink RL 84 yL_take ∈ wsL_law := wl_15 _ (List.mem_of_getElem? (i := 11) rfl)
theorem q_348 : Cond.static yL_take ∈ wsL_law := wl_15 _ (List.mem_of_getElem? (i := 12) rfl)
theorem q_349 : Cond.codeWith yL_take cL_take 4 (some .int) [(0, 9, 12, 15)] ∈ wsL_law := wl_15 _ (List.mem_of_getElem? (i := 13) rfl)
theorem q_350 : Cond.methodLink RL 27 yX4_take ∈ wsL_law := wl_15 _ (List.mem_of_getElem? (i := 14) rfl)
theorem q_351 : Cond.instanceMethod yX4_take ∈ wsL_law := wl_15 _ (List.mem_of_getElem? (i := 15) rfl)
theorem q_352 : Cond.selects RX4 yX4_take yX4_take ∈ wsL_law := wl_15 _ (List.mem_of_getElem? (i := 16) rfl)
theorem q_353 : Cond.code yX4_take cX4_take 2 (some .int) ∈ wsL_law := wl_15 _ (List.mem_of_getElem? (i := 17) rfl)
theorem q_354 : Cond.methodLink RX4 107 yX1_drop ∈ wsL_law := wl_15 _ (List.mem_of_getElem? (i := 18) rfl)
theorem q_355 : Cond.instanceMethod yX1_drop ∈ wsL_law := wl_15 _ (List.mem_of_getElem? (i := 19) rfl)
theorem q_356 : Cond.selects RX1 yX1_drop yX1_drop ∈ wsL_law := wl_15 _ (List.mem_of_getElem? (i := 20) rfl)
theorem q_357 : Cond.code yX1_drop cX1_drop 2 none ∈ wsL_law := wl_15 _ (List.mem_of_getElem? (i := 21) rfl)
theorem q_358 : Cond.methodLink RX1 60 yJx4a65c_remove_915e3 ∈ wsL_law := wl_15 _ (List.mem_of_getElem? (i := 22) rfl)
theorem q_359 : Cond.instanceMethod yJx4a65c_remove_915e3 ∈ wsL_law := wl_15 _ (List.mem_of_getElem? (i := 23) rfl)
theorem q_360 : Cond.selects RJx4a65c yJx4a65c_remove_915e3 yJx4a65c_remove_915e3 ∈ wsL_law := wl_16 _ (List.mem_of_getElem? (i := 0) rfl)
theorem q_361 : Cond.code yJx4a65c_remove_915e3 cJx4a65c_remove_915e3 4 (some (.object "java/lang/Object")) ∈ wsL_law := wl_16 _ (List.mem_of_getElem? (i := 1) rfl)
theorem q_362 : Cond.methodLink RJx4a65c 144 yJx4a65c_fastRemove_b59b0 ∈ wsL_law := wl_16 _ (List.mem_of_getElem? (i := 2) rfl)
theorem q_363 : Cond.instanceMethod yJx4a65c_fastRemove_b59b0 ∈ wsL_law := wl_16 _ (List.mem_of_getElem? (i := 3) rfl)
theorem q_364 : Cond.selects RJx4a65c yJx4a65c_fastRemove_b59b0 yJx4a65c_fastRemove_b59b0 ∈ wsL_law := wl_16 _ (List.mem_of_getElem? (i := 4) rfl)
theorem q_365 : Cond.code yJx4a65c_fastRemove_b59b0 cJx4a65c_fastRemove_b59b0 4 none ∈ wsL_law := wl_16 _ (List.mem_of_getElem? (i := 5) rfl)
theorem q_366 : Cond.methodLink RJx4a65c 112 arraycopyName ∈ wsL_law := wl_16 _ (List.mem_of_getElem? (i := 6) rfl)
theorem q_367 : Cond.methodLink RL 86 yX5_take ∈ wsL_law := wl_16 _ (List.mem_of_getElem? (i := 7) rfl)
theorem q_368 : Cond.instanceMethod yX5_take ∈ wsL_law := wl_16 _ (List.mem_of_getElem? (i := 8) rfl)
theorem q_369 : Cond.selects RX5 yX5_take yX5_take ∈ wsL_law := wl_16 _ (List.mem_of_getElem? (i := 9) rfl)
theorem q_370 : Cond.code yX5_take cX5_take 3 (some .int) ∈ wsL_law := wl_16 _ (List.mem_of_getElem? (i := 10) rfl)
theorem q_371 : Cond.methodLink RL 87 yL_stall ∈ wsL_law := wl_16 _ (List.mem_of_getElem? (i := 11) rfl)
theorem q_372 : Cond.static yL_stall ∈ wsL_law := wl_16 _ (List.mem_of_getElem? (i := 12) rfl)
theorem q_373 : Cond.codeWith yL_stall cL_stall 5 (some .int) [(0, 10, 13, 15), (0, 10, 17, 17)] ∈ wsL_law := wl_16 _ (List.mem_of_getElem? (i := 13) rfl)
theorem q_374 : Cond.methodLink RL 31 yX4_stall ∈ wsL_law := wl_16 _ (List.mem_of_getElem? (i := 14) rfl)
theorem q_375 : Cond.instanceMethod yX4_stall ∈ wsL_law := wl_16 _ (List.mem_of_getElem? (i := 15) rfl)
theorem q_376 : Cond.selects RX4 yX4_stall yX4_stall ∈ wsL_law := wl_16 _ (List.mem_of_getElem? (i := 16) rfl)
theorem q_377 : Cond.code yX4_stall cX4_stall 3 (some .int) ∈ wsL_law := wl_16 _ (List.mem_of_getElem? (i := 17) rfl)
theorem q_378 : Cond.classLink RX4 123 RX3 ∈ wsL_law := wl_16 _ (List.mem_of_getElem? (i := 18) rfl)
theorem q_379 : Cond.instantiable RX3 3 ∈ wsL_law := wl_16 _ (List.mem_of_getElem? (i := 19) rfl)
theorem q_380 : Cond.initialized RX3 ∈ wsL_law := wl_16 _ (List.mem_of_getElem? (i := 20) rfl)
theorem q_381 : Cond.methodLink RX4 111 yX4_requireCell ∈ wsL_law := wl_16 _ (List.mem_of_getElem? (i := 21) rfl)
theorem q_382 : Cond.static yX4_requireCell ∈ wsL_law := wl_16 _ (List.mem_of_getElem? (i := 22) rfl)
theorem q_383 : Cond.code yX4_requireCell cX4_requireCell 2 none ∈ wsL_law := wl_16 _ (List.mem_of_getElem? (i := 23) rfl)
theorem q_384 : Cond.methodLink RX4 264 yX4_isCell ∈ wsL_law := wl_17 _ (List.mem_of_getElem? (i := 0) rfl)
theorem q_385 : Cond.methodLink RX4 114 yJx4a65c_size_8abf5 ∈ wsL_law := wl_17 _ (List.mem_of_getElem? (i := 1) rfl)
theorem q_386 : Cond.methodLink RX4 117 yX4_hasStallAt ∈ wsL_law := wl_17 _ (List.mem_of_getElem? (i := 2) rfl)
theorem q_387 : Cond.instanceMethod yX4_hasStallAt ∈ wsL_law := wl_17 _ (List.mem_of_getElem? (i := 3) rfl)
theorem q_388 : Cond.selects RX4 yX4_hasStallAt yX4_hasStallAt ∈ wsL_law := wl_17 _ (List.mem_of_getElem? (i := 4) rfl)
theorem q_389 : Cond.code yX4_hasStallAt cX4_hasStallAt 5 (some .boolean) ∈ wsL_law := wl_17 _ (List.mem_of_getElem? (i := 5) rfl)
theorem q_390 : Cond.classLink RX4 123 "MarketAwnings$Stall" ∈ wsL_law := wl_17 _ (List.mem_of_getElem? (i := 6) rfl)
theorem q_391 : Cond.fieldLink RX4 199 "MarketAwnings$Stall" "x" "I" ∈ wsL_law := wl_17 _ (List.mem_of_getElem? (i := 7) rfl)
theorem q_392 : Cond.fieldLink RX4 200 "MarketAwnings$Stall" "y" "I" ∈ wsL_law := wl_17 _ (List.mem_of_getElem? (i := 8) rfl)
theorem q_393 : Cond.methodLink RX4 257 yJx4a65c_get_915e3 ∈ wsL_law := wl_17 _ (List.mem_of_getElem? (i := 9) rfl)
theorem q_394 : Cond.methodLink RX4 125 yX4_groundAt ∈ wsL_law := wl_17 _ (List.mem_of_getElem? (i := 10) rfl)
theorem q_395 : Cond.instanceMethod yX4_groundAt ∈ wsL_law := wl_17 _ (List.mem_of_getElem? (i := 11) rfl)
theorem q_396 : Cond.selects RX4 yX4_groundAt yX4_groundAt ∈ wsL_law := wl_17 _ (List.mem_of_getElem? (i := 12) rfl)
theorem q_397 : Cond.code yX4_groundAt cX4_groundAt 3 (some .int) ∈ wsL_law := wl_17 _ (List.mem_of_getElem? (i := 13) rfl)
theorem q_398 : Cond.methodLink RX4 129 yX3_init ∈ wsL_law := wl_17 _ (List.mem_of_getElem? (i := 14) rfl)
theorem q_399 : Cond.instanceMethod yX3_init ∈ wsL_law := wl_17 _ (List.mem_of_getElem? (i := 15) rfl)
theorem q_400 : Cond.code yX3_init cX3_init 4 none ∈ wsL_law := wl_17 _ (List.mem_of_getElem? (i := 16) rfl)
theorem q_401 : Cond.methodLink RX3 1 objectInit ∈ wsL_law := wl_17 _ (List.mem_of_getElem? (i := 17) rfl)
theorem q_402 : Cond.fieldLink RX3 7 "MarketAwnings$Stall" "x" "I" ∈ wsL_law := wl_17 _ (List.mem_of_getElem? (i := 18) rfl)
theorem q_403 : Cond.fieldLink RX3 13 "MarketAwnings$Stall" "y" "I" ∈ wsL_law := wl_17 _ (List.mem_of_getElem? (i := 19) rfl)
theorem q_404 : Cond.fieldLink RX3 16 "MarketAwnings$Stall" "groundBefore" "I" ∈ wsL_law := wl_17 _ (List.mem_of_getElem? (i := 20) rfl)
theorem q_405 : Cond.methodLink RX4 132 yJx4a65c_add_9ea2d ∈ wsL_law := wl_17 _ (List.mem_of_getElem? (i := 21) rfl)
theorem q_406 : Cond.methodLink RL 90 yX5_stall ∈ wsL_law := wl_17 _ (List.mem_of_getElem? (i := 22) rfl)
theorem q_407 : Cond.instanceMethod yX5_stall ∈ wsL_law := wl_17 _ (List.mem_of_getElem? (i := 23) rfl)
theorem q_408 : Cond.selects RX5 yX5_stall yX5_stall ∈ wsL_law := wl_18 _ (List.mem_of_getElem? (i := 0) rfl)
theorem q_409 : Cond.code yX5_stall cX5_stall 5 (some .int) ∈ wsL_law := wl_18 _ (List.mem_of_getElem? (i := 1) rfl)
theorem q_410 : Cond.methodLink RX5 97 yX5_isCell ∈ wsL_law := wl_18 _ (List.mem_of_getElem? (i := 2) rfl)
theorem q_411 : Cond.static yX5_isCell ∈ wsL_law := wl_18 _ (List.mem_of_getElem? (i := 3) rfl)
theorem q_412 : Cond.code yX5_isCell cX5_isCell 2 (some .boolean) ∈ wsL_law := wl_18 _ (List.mem_of_getElem? (i := 4) rfl)
theorem q_413 : Cond.methodLink RL 91 yL_rain ∈ wsL_law := wl_18 _ (List.mem_of_getElem? (i := 5) rfl)
theorem q_414 : Cond.static yL_rain ∈ wsL_law := wl_18 _ (List.mem_of_getElem? (i := 6) rfl)
theorem q_415 : Cond.codeWith yL_rain cL_rain 4 (some .int) [(0, 9, 12, 13)] ∈ wsL_law := wl_18 _ (List.mem_of_getElem? (i := 7) rfl)
theorem q_416 : Cond.methodLink RL 35 yX4_rain ∈ wsL_law := wl_18 _ (List.mem_of_getElem? (i := 8) rfl)
theorem q_417 : Cond.instanceMethod yX4_rain ∈ wsL_law := wl_18 _ (List.mem_of_getElem? (i := 9) rfl)
theorem q_418 : Cond.selects RX4 yX4_rain yX4_rain ∈ wsL_law := wl_18 _ (List.mem_of_getElem? (i := 10) rfl)
theorem q_419 : Cond.code yX4_rain cX4_rain 4 (some .int) ∈ wsL_law := wl_18 _ (List.mem_of_getElem? (i := 11) rfl)
theorem q_420 : Cond.fieldLink RX4 145 "MarketAwnings$Awning" "dripped" "I" ∈ wsL_law := wl_18 _ (List.mem_of_getElem? (i := 12) rfl)
theorem q_421 : Cond.fieldLink RX4 152 "MarketAwnings$Shower" "onGround" "I" ∈ wsL_law := wl_18 _ (List.mem_of_getElem? (i := 13) rfl)
theorem q_422 : Cond.fieldLink RX4 155 "MarketAwnings$Shower" "ranOff" "I" ∈ wsL_law := wl_18 _ (List.mem_of_getElem? (i := 14) rfl)
theorem q_423 : Cond.methodLink RX4 136 yX4_requireDrops ∈ wsL_law := wl_18 _ (List.mem_of_getElem? (i := 15) rfl)
theorem q_424 : Cond.static yX4_requireDrops ∈ wsL_law := wl_18 _ (List.mem_of_getElem? (i := 16) rfl)
theorem q_425 : Cond.code yX4_requireDrops cX4_requireDrops 1 none ∈ wsL_law := wl_18 _ (List.mem_of_getElem? (i := 17) rfl)
theorem q_426 : Cond.methodLink RX4 139 yX2_pour ∈ wsL_law := wl_18 _ (List.mem_of_getElem? (i := 18) rfl)
theorem q_427 : Cond.instanceMethod yX2_pour ∈ wsL_law := wl_18 _ (List.mem_of_getElem? (i := 19) rfl)
theorem q_428 : Cond.selects RX2 yX2_pour yX2_pour ∈ wsL_law := wl_18 _ (List.mem_of_getElem? (i := 20) rfl)
theorem q_429 : Cond.code yX2_pour cX2_pour 4 none ∈ wsL_law := wl_18 _ (List.mem_of_getElem? (i := 21) rfl)
theorem q_430 : Cond.methodLink RX2 29 yX2_dry ∈ wsL_law := wl_18 _ (List.mem_of_getElem? (i := 22) rfl)
theorem q_431 : Cond.instanceMethod yX2_dry ∈ wsL_law := wl_18 _ (List.mem_of_getElem? (i := 23) rfl)
theorem q_432 : Cond.selects RX2 yX2_dry yX2_dry ∈ wsL_law := wl_19 _ (List.mem_of_getElem? (i := 0) rfl)
theorem q_433 : Cond.code yX2_dry cX2_dry 1 none ∈ wsL_law := wl_19 _ (List.mem_of_getElem? (i := 1) rfl)
theorem q_434 : Cond.methodLink RX2 44 yJ7_fill_53178 ∈ wsL_law := wl_19 _ (List.mem_of_getElem? (i := 2) rfl)
theorem q_435 : Cond.methodLink RX2 32 yX2_land ∈ wsL_law := wl_19 _ (List.mem_of_getElem? (i := 3) rfl)
theorem q_436 : Cond.instanceMethod yX2_land ∈ wsL_law := wl_19 _ (List.mem_of_getElem? (i := 4) rfl)
theorem q_437 : Cond.selects RX2 yX2_land yX2_land ∈ wsL_law := wl_19 _ (List.mem_of_getElem? (i := 5) rfl)
theorem q_438 : Cond.code yX2_land cX2_land 6 none ∈ wsL_law := wl_19 _ (List.mem_of_getElem? (i := 6) rfl)
theorem q_439 : Cond.methodLink RX2 86 yX1_highestBelow ∈ wsL_law := wl_19 _ (List.mem_of_getElem? (i := 7) rfl)
theorem q_440 : Cond.instanceMethod yX1_highestBelow ∈ wsL_law := wl_19 _ (List.mem_of_getElem? (i := 8) rfl)
theorem q_441 : Cond.selects RX1 yX1_highestBelow yX1_highestBelow ∈ wsL_law := wl_19 _ (List.mem_of_getElem? (i := 9) rfl)
theorem q_442 : Cond.code yX1_highestBelow cX1_highestBelow 8 (some .int) ∈ wsL_law := wl_19 _ (List.mem_of_getElem? (i := 10) rfl)
theorem q_443 : Cond.fieldLink RX1 89 "MarketAwnings$Awning" "level" "I" ∈ wsL_law := wl_19 _ (List.mem_of_getElem? (i := 11) rfl)
theorem q_444 : Cond.methodLink RX1 92 yX0_covers ∈ wsL_law := wl_19 _ (List.mem_of_getElem? (i := 12) rfl)
theorem q_445 : Cond.instanceMethod yX0_covers ∈ wsL_law := wl_19 _ (List.mem_of_getElem? (i := 13) rfl)
theorem q_446 : Cond.selects RX0 yX0_covers yX0_covers ∈ wsL_law := wl_19 _ (List.mem_of_getElem? (i := 14) rfl)
theorem q_447 : Cond.code yX0_covers cX0_covers 3 (some .boolean) ∈ wsL_law := wl_19 _ (List.mem_of_getElem? (i := 15) rfl)
theorem q_448 : Cond.methodLink RX2 36 yX2_dripFromLevel ∈ wsL_law := wl_19 _ (List.mem_of_getElem? (i := 16) rfl)
theorem q_449 : Cond.instanceMethod yX2_dripFromLevel ∈ wsL_law := wl_19 _ (List.mem_of_getElem? (i := 17) rfl)
theorem q_450 : Cond.selects RX2 yX2_dripFromLevel yX2_dripFromLevel ∈ wsL_law := wl_19 _ (List.mem_of_getElem? (i := 18) rfl)
theorem q_451 : Cond.code yX2_dripFromLevel cX2_dripFromLevel 4 none ∈ wsL_law := wl_19 _ (List.mem_of_getElem? (i := 19) rfl)
theorem q_452 : Cond.fieldLink RX2 60 "MarketAwnings$Awning" "out" "Z" ∈ wsL_law := wl_19 _ (List.mem_of_getElem? (i := 20) rfl)
theorem q_453 : Cond.fieldLink RX2 66 "MarketAwnings$Awning" "level" "I" ∈ wsL_law := wl_19 _ (List.mem_of_getElem? (i := 21) rfl)
theorem q_454 : Cond.methodLink RX2 50 yX1_size ∈ wsL_law := wl_19 _ (List.mem_of_getElem? (i := 22) rfl)
theorem q_455 : Cond.methodLink RX2 56 yX1_numbered ∈ wsL_law := wl_19 _ (List.mem_of_getElem? (i := 23) rfl)
theorem q_456 : Cond.methodLink RX2 69 yX2_caughtBy ∈ wsL_law := wl_20 _ (List.mem_of_getElem? (i := 0) rfl)
theorem q_457 : Cond.instanceMethod yX2_caughtBy ∈ wsL_law := wl_20 _ (List.mem_of_getElem? (i := 1) rfl)
theorem q_458 : Cond.selects RX2 yX2_caughtBy yX2_caughtBy ∈ wsL_law := wl_20 _ (List.mem_of_getElem? (i := 2) rfl)
theorem q_459 : Cond.code yX2_caughtBy cX2_caughtBy 2 (some .int) ∈ wsL_law := wl_20 _ (List.mem_of_getElem? (i := 3) rfl)
theorem q_460 : Cond.methodLink RX2 73 yX2_drip ∈ wsL_law := wl_20 _ (List.mem_of_getElem? (i := 4) rfl)
theorem q_461 : Cond.instanceMethod yX2_drip ∈ wsL_law := wl_20 _ (List.mem_of_getElem? (i := 5) rfl)
theorem q_462 : Cond.selects RX2 yX2_drip yX2_drip ∈ wsL_law := wl_20 _ (List.mem_of_getElem? (i := 6) rfl)
theorem q_463 : Cond.code yX2_drip cX2_drip 8 none ∈ wsL_law := wl_20 _ (List.mem_of_getElem? (i := 7) rfl)
theorem q_464 : Cond.methodLink RX2 77 yX0_cellsBeyond ∈ wsL_law := wl_20 _ (List.mem_of_getElem? (i := 8) rfl)
theorem q_465 : Cond.instanceMethod yX0_cellsBeyond ∈ wsL_law := wl_20 _ (List.mem_of_getElem? (i := 9) rfl)
theorem q_466 : Cond.selects RX0 yX0_cellsBeyond yX0_cellsBeyond ∈ wsL_law := wl_20 _ (List.mem_of_getElem? (i := 10) rfl)
theorem q_467 : Cond.code yX0_cellsBeyond cX0_cellsBeyond 1 (some .int) ∈ wsL_law := wl_20 _ (List.mem_of_getElem? (i := 11) rfl)
theorem q_468 : Cond.methodLink RX0 37 yX0_dripsAlongRows ∈ wsL_law := wl_20 _ (List.mem_of_getElem? (i := 12) rfl)
theorem q_469 : Cond.instanceMethod yX0_dripsAlongRows ∈ wsL_law := wl_20 _ (List.mem_of_getElem? (i := 13) rfl)
theorem q_470 : Cond.selects RX0 yX0_dripsAlongRows yX0_dripsAlongRows ∈ wsL_law := wl_20 _ (List.mem_of_getElem? (i := 14) rfl)
theorem q_471 : Cond.code yX0_dripsAlongRows cX0_dripsAlongRows 1 (some .boolean) ∈ wsL_law := wl_20 _ (List.mem_of_getElem? (i := 15) rfl)
theorem q_472 : Cond.methodLink RX2 80 yX0_columnBeyond ∈ wsL_law := wl_20 _ (List.mem_of_getElem? (i := 16) rfl)
theorem q_473 : Cond.instanceMethod yX0_columnBeyond ∈ wsL_law := wl_20 _ (List.mem_of_getElem? (i := 17) rfl)
theorem q_474 : Cond.selects RX0 yX0_columnBeyond yX0_columnBeyond ∈ wsL_law := wl_20 _ (List.mem_of_getElem? (i := 18) rfl)
theorem q_475 : Cond.code yX0_columnBeyond cX0_columnBeyond 2 (some .int) ∈ wsL_law := wl_20 _ (List.mem_of_getElem? (i := 19) rfl)
theorem q_476 : Cond.methodLink RX2 83 yX0_rowBeyond ∈ wsL_law := wl_20 _ (List.mem_of_getElem? (i := 20) rfl)
theorem q_477 : Cond.instanceMethod yX0_rowBeyond ∈ wsL_law := wl_20 _ (List.mem_of_getElem? (i := 21) rfl)
theorem q_478 : Cond.selects RX0 yX0_rowBeyond yX0_rowBeyond ∈ wsL_law := wl_20 _ (List.mem_of_getElem? (i := 22) rfl)
theorem q_479 : Cond.code yX0_rowBeyond cX0_rowBeyond 2 (some .int) ∈ wsL_law := wl_20 _ (List.mem_of_getElem? (i := 23) rfl)
theorem q_480 : Cond.methodLink RX4 142 yX2_fallenAt ∈ wsL_law := wl_21 _ (List.mem_of_getElem? (i := 0) rfl)
theorem q_481 : Cond.instanceMethod yX2_fallenAt ∈ wsL_law := wl_21 _ (List.mem_of_getElem? (i := 1) rfl)
theorem q_482 : Cond.selects RX2 yX2_fallenAt yX2_fallenAt ∈ wsL_law := wl_21 _ (List.mem_of_getElem? (i := 2) rfl)
theorem q_483 : Cond.code yX2_fallenAt cX2_fallenAt 3 (some .int) ∈ wsL_law := wl_21 _ (List.mem_of_getElem? (i := 3) rfl)
theorem q_484 : Cond.methodLink RX4 148 yX2_caughtBy ∈ wsL_law := wl_21 _ (List.mem_of_getElem? (i := 4) rfl)
theorem q_485 : Cond.methodLink RL 93 yX5_rain ∈ wsL_law := wl_21 _ (List.mem_of_getElem? (i := 5) rfl)
theorem q_486 : Cond.instanceMethod yX5_rain ∈ wsL_law := wl_21 _ (List.mem_of_getElem? (i := 6) rfl)
theorem q_487 : Cond.selects RX5 yX5_rain yX5_rain ∈ wsL_law := wl_21 _ (List.mem_of_getElem? (i := 7) rfl)
theorem q_488 : Cond.code yX5_rain cX5_rain 4 (some .int) ∈ wsL_law := wl_21 _ (List.mem_of_getElem? (i := 8) rfl)
theorem q_489 : Cond.methodLink RX5 100 yX5_pour ∈ wsL_law := wl_21 _ (List.mem_of_getElem? (i := 9) rfl)
theorem q_490 : Cond.instanceMethod yX5_pour ∈ wsL_law := wl_21 _ (List.mem_of_getElem? (i := 10) rfl)
theorem q_491 : Cond.selects RX5 yX5_pour yX5_pour ∈ wsL_law := wl_21 _ (List.mem_of_getElem? (i := 11) rfl)
theorem q_492 : Cond.code yX5_pour cX5_pour 4 (some .int) ∈ wsL_law := wl_21 _ (List.mem_of_getElem? (i := 12) rfl)
theorem q_493 : Cond.methodLink RX5 71 yX5_fall ∈ wsL_law := wl_21 _ (List.mem_of_getElem? (i := 13) rfl)
theorem q_494 : Cond.instanceMethod yX5_fall ∈ wsL_law := wl_21 _ (List.mem_of_getElem? (i := 14) rfl)
theorem q_495 : Cond.selects RX5 yX5_fall yX5_fall ∈ wsL_law := wl_21 _ (List.mem_of_getElem? (i := 15) rfl)
theorem q_496 : Cond.code yX5_fall cX5_fall 6 none ∈ wsL_law := wl_21 _ (List.mem_of_getElem? (i := 16) rfl)
theorem q_497 : Cond.methodLink RX5 67 yX5_highest ∈ wsL_law := wl_21 _ (List.mem_of_getElem? (i := 17) rfl)
theorem q_498 : Cond.instanceMethod yX5_highest ∈ wsL_law := wl_21 _ (List.mem_of_getElem? (i := 18) rfl)
theorem q_499 : Cond.selects RX5 yX5_highest yX5_highest ∈ wsL_law := wl_21 _ (List.mem_of_getElem? (i := 19) rfl)
theorem q_500 : Cond.code yX5_highest cX5_highest 5 (some .int) ∈ wsL_law := wl_21 _ (List.mem_of_getElem? (i := 20) rfl)
theorem q_501 : Cond.methodLink RX5 63 yX5_below ∈ wsL_law := wl_21 _ (List.mem_of_getElem? (i := 21) rfl)
theorem q_502 : Cond.instanceMethod yX5_below ∈ wsL_law := wl_21 _ (List.mem_of_getElem? (i := 22) rfl)
theorem q_503 : Cond.selects RX5 yX5_below yX5_below ∈ wsL_law := wl_21 _ (List.mem_of_getElem? (i := 23) rfl)
theorem q_504 : Cond.code yX5_below cX5_below 4 (some .int) ∈ wsL_law := wl_22 _ (List.mem_of_getElem? (i := 0) rfl)
theorem q_505 : Cond.methodLink RX5 59 yX5_isHigher ∈ wsL_law := wl_22 _ (List.mem_of_getElem? (i := 1) rfl)
theorem q_506 : Cond.instanceMethod yX5_isHigher ∈ wsL_law := wl_22 _ (List.mem_of_getElem? (i := 2) rfl)
theorem q_507 : Cond.selects RX5 yX5_isHigher yX5_isHigher ∈ wsL_law := wl_22 _ (List.mem_of_getElem? (i := 3) rfl)
theorem q_508 : Cond.code yX5_isHigher cX5_isHigher 3 (some .boolean) ∈ wsL_law := wl_22 _ (List.mem_of_getElem? (i := 4) rfl)
theorem q_509 : Cond.methodLink RX5 75 yX5_drip ∈ wsL_law := wl_22 _ (List.mem_of_getElem? (i := 5) rfl)
theorem q_510 : Cond.instanceMethod yX5_drip ∈ wsL_law := wl_22 _ (List.mem_of_getElem? (i := 6) rfl)
theorem q_511 : Cond.selects RX5 yX5_drip yX5_drip ∈ wsL_law := wl_22 _ (List.mem_of_getElem? (i := 7) rfl)
theorem q_512 : Cond.code yX5_drip cX5_drip 8 (some .int) ∈ wsL_law := wl_22 _ (List.mem_of_getElem? (i := 8) rfl)
theorem q_513 : Cond.methodLink RL 94 yL_about ∈ wsL_law := wl_22 _ (List.mem_of_getElem? (i := 9) rfl)
theorem q_514 : Cond.static yL_about ∈ wsL_law := wl_22 _ (List.mem_of_getElem? (i := 10) rfl)
theorem q_515 : Cond.codeWith yL_about cL_about 5 (some .int) [(0, 10, 13, 15)] ∈ wsL_law := wl_22 _ (List.mem_of_getElem? (i := 11) rfl)
theorem q_516 : Cond.methodLink RL 38 yX4_about ∈ wsL_law := wl_22 _ (List.mem_of_getElem? (i := 12) rfl)
theorem q_517 : Cond.instanceMethod yX4_about ∈ wsL_law := wl_22 _ (List.mem_of_getElem? (i := 13) rfl)
theorem q_518 : Cond.selects RX4 yX4_about yX4_about ∈ wsL_law := wl_22 _ (List.mem_of_getElem? (i := 14) rfl)
theorem q_519 : Cond.code yX4_about cX4_about 4 (some .int) ∈ wsL_law := wl_22 _ (List.mem_of_getElem? (i := 15) rfl)
theorem q_520 : Cond.fieldLink RX4 161 "MarketAwnings$Awning" "level" "I" ∈ wsL_law := wl_22 _ (List.mem_of_getElem? (i := 16) rfl)
theorem q_521 : Cond.fieldLink RX4 164 "MarketAwnings$Awning" "side" "I" ∈ wsL_law := wl_22 _ (List.mem_of_getElem? (i := 17) rfl)
theorem q_522 : Cond.methodLink RX4 158 yX4_requireWhat ∈ wsL_law := wl_22 _ (List.mem_of_getElem? (i := 18) rfl)
theorem q_523 : Cond.static yX4_requireWhat ∈ wsL_law := wl_22 _ (List.mem_of_getElem? (i := 19) rfl)
theorem q_524 : Cond.code yX4_requireWhat cX4_requireWhat 2 none ∈ wsL_law := wl_22 _ (List.mem_of_getElem? (i := 20) rfl)
theorem q_525 : Cond.methodLink RX4 167 yX1_coveredOnlyBy ∈ wsL_law := wl_22 _ (List.mem_of_getElem? (i := 21) rfl)
theorem q_526 : Cond.instanceMethod yX1_coveredOnlyBy ∈ wsL_law := wl_22 _ (List.mem_of_getElem? (i := 22) rfl)
theorem q_527 : Cond.selects RX1 yX1_coveredOnlyBy yX1_coveredOnlyBy ∈ wsL_law := wl_22 _ (List.mem_of_getElem? (i := 23) rfl)
theorem q_528 : Cond.code yX1_coveredOnlyBy cX1_coveredOnlyBy 5 (some .int) ∈ wsL_law := wl_23 _ (List.mem_of_getElem? (i := 0) rfl)
theorem q_529 : Cond.methodLink RX1 99 yX1_layersAt ∈ wsL_law := wl_23 _ (List.mem_of_getElem? (i := 1) rfl)
theorem q_530 : Cond.instanceMethod yX1_layersAt ∈ wsL_law := wl_23 _ (List.mem_of_getElem? (i := 2) rfl)
theorem q_531 : Cond.selects RX1 yX1_layersAt yX1_layersAt ∈ wsL_law := wl_23 _ (List.mem_of_getElem? (i := 3) rfl)
theorem q_532 : Cond.code yX1_layersAt cX1_layersAt 3 (some .int) ∈ wsL_law := wl_23 _ (List.mem_of_getElem? (i := 4) rfl)
theorem q_533 : Cond.methodLink RL 96 yX5_about ∈ wsL_law := wl_23 _ (List.mem_of_getElem? (i := 5) rfl)
theorem q_534 : Cond.instanceMethod yX5_about ∈ wsL_law := wl_23 _ (List.mem_of_getElem? (i := 6) rfl)
theorem q_535 : Cond.selects RX5 yX5_about yX5_about ∈ wsL_law := wl_23 _ (List.mem_of_getElem? (i := 7) rfl)
theorem q_536 : Cond.code yX5_about cX5_about 3 (some .int) ∈ wsL_law := wl_23 _ (List.mem_of_getElem? (i := 8) rfl)
theorem q_537 : Cond.methodLink RX5 115 yX5_awningTold ∈ wsL_law := wl_23 _ (List.mem_of_getElem? (i := 9) rfl)
theorem q_538 : Cond.instanceMethod yX5_awningTold ∈ wsL_law := wl_23 _ (List.mem_of_getElem? (i := 10) rfl)
theorem q_539 : Cond.selects RX5 yX5_awningTold yX5_awningTold ∈ wsL_law := wl_23 _ (List.mem_of_getElem? (i := 11) rfl)
theorem q_540 : Cond.code yX5_awningTold cX5_awningTold 3 (some .int) ∈ wsL_law := wl_23 _ (List.mem_of_getElem? (i := 12) rfl)
theorem q_541 : Cond.methodLink RX5 112 yX5_own ∈ wsL_law := wl_23 _ (List.mem_of_getElem? (i := 13) rfl)
theorem q_542 : Cond.instanceMethod yX5_own ∈ wsL_law := wl_23 _ (List.mem_of_getElem? (i := 14) rfl)
theorem q_543 : Cond.selects RX5 yX5_own yX5_own ∈ wsL_law := wl_23 _ (List.mem_of_getElem? (i := 15) rfl)
theorem q_544 : Cond.code yX5_own cX5_own 4 (some .int) ∈ wsL_law := wl_23 _ (List.mem_of_getElem? (i := 16) rfl)
theorem q_545 : Cond.methodLink RL 97 yL_cell ∈ wsL_law := wl_23 _ (List.mem_of_getElem? (i := 17) rfl)
theorem q_546 : Cond.static yL_cell ∈ wsL_law := wl_23 _ (List.mem_of_getElem? (i := 18) rfl)
theorem q_547 : Cond.codeWith yL_cell cL_cell 6 (some .int) [(0, 12, 15, 15)] ∈ wsL_law := wl_23 _ (List.mem_of_getElem? (i := 19) rfl)
theorem q_548 : Cond.methodLink RL 41 yX4_cell ∈ wsL_law := wl_23 _ (List.mem_of_getElem? (i := 20) rfl)
theorem q_549 : Cond.instanceMethod yX4_cell ∈ wsL_law := wl_23 _ (List.mem_of_getElem? (i := 21) rfl)
theorem q_550 : Cond.selects RX4 yX4_cell yX4_cell ∈ wsL_law := wl_23 _ (List.mem_of_getElem? (i := 22) rfl)
theorem q_551 : Cond.code yX4_cell cX4_cell 4 (some .int) ∈ wsL_law := wl_23 _ (List.mem_of_getElem? (i := 23) rfl)
theorem q_552 : Cond.methodLink RX4 171 yX1_layersAt ∈ wsL_law := wl_24 _ (List.mem_of_getElem? (i := 0) rfl)
theorem q_553 : Cond.methodLink RX4 174 yX1_highestBelow ∈ wsL_law := wl_24 _ (List.mem_of_getElem? (i := 1) rfl)
theorem q_554 : Cond.methodLink RL 99 yX5_cell ∈ wsL_law := wl_24 _ (List.mem_of_getElem? (i := 2) rfl)
theorem q_555 : Cond.instanceMethod yX5_cell ∈ wsL_law := wl_24 _ (List.mem_of_getElem? (i := 3) rfl)
theorem q_556 : Cond.selects RX5 yX5_cell yX5_cell ∈ wsL_law := wl_24 _ (List.mem_of_getElem? (i := 4) rfl)
theorem q_557 : Cond.code yX5_cell cX5_cell 4 (some .int) ∈ wsL_law := wl_24 _ (List.mem_of_getElem? (i := 5) rfl)
theorem q_558 : Cond.methodLink RX5 121 yX5_cellTold ∈ wsL_law := wl_24 _ (List.mem_of_getElem? (i := 6) rfl)
theorem q_559 : Cond.instanceMethod yX5_cellTold ∈ wsL_law := wl_24 _ (List.mem_of_getElem? (i := 7) rfl)
theorem q_560 : Cond.selects RX5 yX5_cellTold yX5_cellTold ∈ wsL_law := wl_24 _ (List.mem_of_getElem? (i := 8) rfl)
theorem q_561 : Cond.code yX5_cellTold cX5_cellTold 4 (some .int) ∈ wsL_law := wl_24 _ (List.mem_of_getElem? (i := 9) rfl)
theorem q_562 : Cond.methodLink RL 100 yL_cord ∈ wsL_law := wl_24 _ (List.mem_of_getElem? (i := 10) rfl)
theorem q_563 : Cond.static yL_cord ∈ wsL_law := wl_24 _ (List.mem_of_getElem? (i := 11) rfl)
theorem q_564 : Cond.codeWith yL_cord cL_cord 5 (some .int) [(0, 10, 13, 15)] ∈ wsL_law := wl_24 _ (List.mem_of_getElem? (i := 12) rfl)
theorem q_565 : Cond.methodLink RL 44 yX4_cord ∈ wsL_law := wl_24 _ (List.mem_of_getElem? (i := 13) rfl)
theorem q_566 : Cond.instanceMethod yX4_cord ∈ wsL_law := wl_24 _ (List.mem_of_getElem? (i := 14) rfl)
theorem q_567 : Cond.selects RX4 yX4_cord yX4_cord ∈ wsL_law := wl_24 _ (List.mem_of_getElem? (i := 15) rfl)
theorem q_568 : Cond.code yX4_cord cX4_cord 3 (some .int) ∈ wsL_law := wl_24 _ (List.mem_of_getElem? (i := 16) rfl)
theorem q_569 : Cond.methodLink RX4 183 yX1_coveredInColumn ∈ wsL_law := wl_24 _ (List.mem_of_getElem? (i := 17) rfl)
theorem q_570 : Cond.instanceMethod yX1_coveredInColumn ∈ wsL_law := wl_24 _ (List.mem_of_getElem? (i := 18) rfl)
theorem q_571 : Cond.selects RX1 yX1_coveredInColumn yX1_coveredInColumn ∈ wsL_law := wl_24 _ (List.mem_of_getElem? (i := 19) rfl)
theorem q_572 : Cond.code yX1_coveredInColumn cX1_coveredInColumn 4 (some .int) ∈ wsL_law := wl_24 _ (List.mem_of_getElem? (i := 20) rfl)
theorem q_573 : Cond.methodLink RX4 186 yX1_runsInColumn ∈ wsL_law := wl_24 _ (List.mem_of_getElem? (i := 21) rfl)
theorem q_574 : Cond.instanceMethod yX1_runsInColumn ∈ wsL_law := wl_24 _ (List.mem_of_getElem? (i := 22) rfl)
theorem q_575 : Cond.selects RX1 yX1_runsInColumn yX1_runsInColumn ∈ wsL_law := wl_24 _ (List.mem_of_getElem? (i := 23) rfl)
theorem q_576 : Cond.code yX1_runsInColumn cX1_runsInColumn 4 (some .int) ∈ wsL_law := wl_25 _ (List.mem_of_getElem? (i := 0) rfl)
theorem q_577 : Cond.methodLink RX4 189 yX1_longestRunInColumn ∈ wsL_law := wl_25 _ (List.mem_of_getElem? (i := 1) rfl)
theorem q_578 : Cond.instanceMethod yX1_longestRunInColumn ∈ wsL_law := wl_25 _ (List.mem_of_getElem? (i := 2) rfl)
theorem q_579 : Cond.selects RX1 yX1_longestRunInColumn yX1_longestRunInColumn ∈ wsL_law := wl_25 _ (List.mem_of_getElem? (i := 3) rfl)
theorem q_580 : Cond.code yX1_longestRunInColumn cX1_longestRunInColumn 5 (some .int) ∈ wsL_law := wl_25 _ (List.mem_of_getElem? (i := 4) rfl)
theorem q_581 : Cond.methodLink RX1 116 Lib.Math.max.name ∈ wsL_law := wl_25 _ (List.mem_of_getElem? (i := 5) rfl)
theorem q_582 : Cond.methodLink RX4 192 yX1_mostLayersInColumn ∈ wsL_law := wl_25 _ (List.mem_of_getElem? (i := 6) rfl)
theorem q_583 : Cond.instanceMethod yX1_mostLayersInColumn ∈ wsL_law := wl_25 _ (List.mem_of_getElem? (i := 7) rfl)
theorem q_584 : Cond.selects RX1 yX1_mostLayersInColumn yX1_mostLayersInColumn ∈ wsL_law := wl_25 _ (List.mem_of_getElem? (i := 8) rfl)
theorem q_585 : Cond.code yX1_mostLayersInColumn cX1_mostLayersInColumn 4 (some .int) ∈ wsL_law := wl_25 _ (List.mem_of_getElem? (i := 9) rfl)
theorem q_586 : Cond.methodLink RL 102 yX5_cord ∈ wsL_law := wl_25 _ (List.mem_of_getElem? (i := 10) rfl)
theorem q_587 : Cond.instanceMethod yX5_cord ∈ wsL_law := wl_25 _ (List.mem_of_getElem? (i := 11) rfl)
theorem q_588 : Cond.selects RX5 yX5_cord yX5_cord ∈ wsL_law := wl_25 _ (List.mem_of_getElem? (i := 12) rfl)
theorem q_589 : Cond.code yX5_cord cX5_cord 3 (some .int) ∈ wsL_law := wl_25 _ (List.mem_of_getElem? (i := 13) rfl)
theorem q_590 : Cond.methodLink RX5 137 yX5_cordTold ∈ wsL_law := wl_25 _ (List.mem_of_getElem? (i := 14) rfl)
theorem q_591 : Cond.instanceMethod yX5_cordTold ∈ wsL_law := wl_25 _ (List.mem_of_getElem? (i := 15) rfl)
theorem q_592 : Cond.selects RX5 yX5_cordTold yX5_cordTold ∈ wsL_law := wl_25 _ (List.mem_of_getElem? (i := 16) rfl)
theorem q_593 : Cond.code yX5_cordTold cX5_cordTold 4 (some .int) ∈ wsL_law := wl_25 _ (List.mem_of_getElem? (i := 17) rfl)
theorem q_594 : Cond.methodLink RX5 131 yX5_longest ∈ wsL_law := wl_25 _ (List.mem_of_getElem? (i := 18) rfl)
theorem q_595 : Cond.static yX5_longest ∈ wsL_law := wl_25 _ (List.mem_of_getElem? (i := 19) rfl)
theorem q_596 : Cond.code yX5_longest cX5_longest 3 (some .int) ∈ wsL_law := wl_25 _ (List.mem_of_getElem? (i := 20) rfl)
theorem q_597 : Cond.methodLink RX5 134 yX5_deepest ∈ wsL_law := wl_25 _ (List.mem_of_getElem? (i := 21) rfl)
theorem q_598 : Cond.instanceMethod yX5_deepest ∈ wsL_law := wl_25 _ (List.mem_of_getElem? (i := 22) rfl)
theorem q_599 : Cond.selects RX5 yX5_deepest yX5_deepest ∈ wsL_law := wl_25 _ (List.mem_of_getElem? (i := 23) rfl)
theorem q_600 : Cond.code yX5_deepest cX5_deepest 4 (some .int) ∈ wsL_law := wl_26 _ (List.mem_of_getElem? (i := 0) rfl)
theorem q_601 : Cond.methodLink RX5 124 Lib.Math.max.name ∈ wsL_law := wl_26 _ (List.mem_of_getElem? (i := 1) rfl)
theorem q_602 : Cond.methodLink RL 103 yL_told ∈ wsL_law := wl_26 _ (List.mem_of_getElem? (i := 2) rfl)
theorem q_603 : Cond.static yL_told ∈ wsL_law := wl_26 _ (List.mem_of_getElem? (i := 3) rfl)
theorem q_604 : Cond.codeWith yL_told cL_told 5 (some .int) [(0, 10, 13, 15)] ∈ wsL_law := wl_26 _ (List.mem_of_getElem? (i := 4) rfl)
theorem q_605 : Cond.methodLink RL 47 yX4_told ∈ wsL_law := wl_26 _ (List.mem_of_getElem? (i := 5) rfl)
theorem q_606 : Cond.instanceMethod yX4_told ∈ wsL_law := wl_26 _ (List.mem_of_getElem? (i := 6) rfl)
theorem q_607 : Cond.selects RX4 yX4_told yX4_told ∈ wsL_law := wl_26 _ (List.mem_of_getElem? (i := 7) rfl)
theorem q_608 : Cond.code yX4_told cX4_told 4 (some .int) ∈ wsL_law := wl_26 _ (List.mem_of_getElem? (i := 8) rfl)
theorem q_609 : Cond.methodLink RX4 195 yX4_numberedStall ∈ wsL_law := wl_26 _ (List.mem_of_getElem? (i := 9) rfl)
theorem q_610 : Cond.instanceMethod yX4_numberedStall ∈ wsL_law := wl_26 _ (List.mem_of_getElem? (i := 10) rfl)
theorem q_611 : Cond.selects RX4 yX4_numberedStall yX4_numberedStall ∈ wsL_law := wl_26 _ (List.mem_of_getElem? (i := 11) rfl)
theorem q_612 : Cond.code yX4_numberedStall cX4_numberedStall 2 (some (.object "MarketAwnings$Stall")) ∈ wsL_law := wl_26 _ (List.mem_of_getElem? (i := 12) rfl)
theorem q_613 : Cond.methodLink RX4 201 yX4_gotBy ∈ wsL_law := wl_26 _ (List.mem_of_getElem? (i := 13) rfl)
theorem q_614 : Cond.instanceMethod yX4_gotBy ∈ wsL_law := wl_26 _ (List.mem_of_getElem? (i := 14) rfl)
theorem q_615 : Cond.selects RX4 yX4_gotBy yX4_gotBy ∈ wsL_law := wl_26 _ (List.mem_of_getElem? (i := 15) rfl)
theorem q_616 : Cond.code yX4_gotBy cX4_gotBy 2 (some .int) ∈ wsL_law := wl_26 _ (List.mem_of_getElem? (i := 16) rfl)
theorem q_617 : Cond.fieldLink RX4 261 "MarketAwnings$Stall" "groundBefore" "I" ∈ wsL_law := wl_26 _ (List.mem_of_getElem? (i := 17) rfl)
theorem q_618 : Cond.methodLink RL 105 yX5_told ∈ wsL_law := wl_26 _ (List.mem_of_getElem? (i := 18) rfl)
theorem q_619 : Cond.instanceMethod yX5_told ∈ wsL_law := wl_26 _ (List.mem_of_getElem? (i := 19) rfl)
theorem q_620 : Cond.selects RX5 yX5_told yX5_told ∈ wsL_law := wl_26 _ (List.mem_of_getElem? (i := 20) rfl)
theorem q_621 : Cond.code yX5_told cX5_told 3 (some .int) ∈ wsL_law := wl_26 _ (List.mem_of_getElem? (i := 21) rfl)
theorem q_622 : Cond.methodLink RX5 143 yX5_isStall ∈ wsL_law := wl_26 _ (List.mem_of_getElem? (i := 22) rfl)
theorem q_623 : Cond.instanceMethod yX5_isStall ∈ wsL_law := wl_26 _ (List.mem_of_getElem? (i := 23) rfl)
theorem q_624 : Cond.selects RX5 yX5_isStall yX5_isStall ∈ wsL_law := wl_27 _ (List.mem_of_getElem? (i := 0) rfl)
theorem q_625 : Cond.code yX5_isStall cX5_isStall 2 (some .boolean) ∈ wsL_law := wl_27 _ (List.mem_of_getElem? (i := 1) rfl)
theorem q_626 : Cond.methodLink RL 106 yL_share ∈ wsL_law := wl_27 _ (List.mem_of_getElem? (i := 2) rfl)
theorem q_627 : Cond.static yL_share ∈ wsL_law := wl_27 _ (List.mem_of_getElem? (i := 3) rfl)
theorem q_628 : Cond.codeWith yL_share cL_share 5 (some .int) [(0, 10, 13, 15)] ∈ wsL_law := wl_27 _ (List.mem_of_getElem? (i := 4) rfl)
theorem q_629 : Cond.methodLink RL 50 yX4_share ∈ wsL_law := wl_27 _ (List.mem_of_getElem? (i := 5) rfl)
theorem q_630 : Cond.instanceMethod yX4_share ∈ wsL_law := wl_27 _ (List.mem_of_getElem? (i := 6) rfl)
theorem q_631 : Cond.selects RX4 yX4_share yX4_share ∈ wsL_law := wl_27 _ (List.mem_of_getElem? (i := 7) rfl)
theorem q_632 : Cond.code yX4_share cX4_share 7 (some .int) ∈ wsL_law := wl_27 _ (List.mem_of_getElem? (i := 8) rfl)
theorem q_633 : Cond.methodLink RX4 205 Lib.Math.min.name ∈ wsL_law := wl_27 _ (List.mem_of_getElem? (i := 9) rfl)
theorem q_634 : Cond.methodLink RX4 210 Lib.Math.max.name ∈ wsL_law := wl_27 _ (List.mem_of_getElem? (i := 10) rfl)
theorem q_635 : Cond.methodLink RL 108 yX5_share ∈ wsL_law := wl_27 _ (List.mem_of_getElem? (i := 11) rfl)
theorem q_636 : Cond.instanceMethod yX5_share ∈ wsL_law := wl_27 _ (List.mem_of_getElem? (i := 12) rfl)
theorem q_637 : Cond.selects RX5 yX5_share yX5_share ∈ wsL_law := wl_27 _ (List.mem_of_getElem? (i := 13) rfl)
theorem q_638 : Cond.code yX5_share cX5_share 5 (some .int) ∈ wsL_law := wl_27 _ (List.mem_of_getElem? (i := 14) rfl)
theorem q_639 : Cond.methodLink RL 109 yL_count ∈ wsL_law := wl_27 _ (List.mem_of_getElem? (i := 15) rfl)
theorem q_640 : Cond.static yL_count ∈ wsL_law := wl_27 _ (List.mem_of_getElem? (i := 16) rfl)
theorem q_641 : Cond.codeWith yL_count cL_count 4 (some .int) [(0, 9, 12, 15)] ∈ wsL_law := wl_27 _ (List.mem_of_getElem? (i := 17) rfl)
theorem q_642 : Cond.methodLink RL 53 yX4_count ∈ wsL_law := wl_27 _ (List.mem_of_getElem? (i := 18) rfl)
theorem q_643 : Cond.instanceMethod yX4_count ∈ wsL_law := wl_27 _ (List.mem_of_getElem? (i := 19) rfl)
theorem q_644 : Cond.selects RX4 yX4_count yX4_count ∈ wsL_law := wl_27 _ (List.mem_of_getElem? (i := 20) rfl)
theorem q_645 : Cond.code yX4_count cX4_count 2 (some .int) ∈ wsL_law := wl_27 _ (List.mem_of_getElem? (i := 21) rfl)
theorem q_646 : Cond.methodLink RX4 213 yX1_sizeOut ∈ wsL_law := wl_27 _ (List.mem_of_getElem? (i := 22) rfl)
theorem q_647 : Cond.instanceMethod yX1_sizeOut ∈ wsL_law := wl_27 _ (List.mem_of_getElem? (i := 23) rfl)
theorem q_648 : Cond.selects RX1 yX1_sizeOut yX1_sizeOut ∈ wsL_law := wl_28 _ (List.mem_of_getElem? (i := 0) rfl)
theorem q_649 : Cond.code yX1_sizeOut cX1_sizeOut 3 (some .int) ∈ wsL_law := wl_28 _ (List.mem_of_getElem? (i := 1) rfl)
theorem q_650 : Cond.methodLink RX4 216 yX1_outline ∈ wsL_law := wl_28 _ (List.mem_of_getElem? (i := 2) rfl)
theorem q_651 : Cond.instanceMethod yX1_outline ∈ wsL_law := wl_28 _ (List.mem_of_getElem? (i := 3) rfl)
theorem q_652 : Cond.selects RX1 yX1_outline yX1_outline ∈ wsL_law := wl_28 _ (List.mem_of_getElem? (i := 4) rfl)
theorem q_653 : Cond.code yX1_outline cX1_outline 4 (some .int) ∈ wsL_law := wl_28 _ (List.mem_of_getElem? (i := 5) rfl)
theorem q_654 : Cond.methodLink RX1 103 yX1_openSides ∈ wsL_law := wl_28 _ (List.mem_of_getElem? (i := 6) rfl)
theorem q_655 : Cond.instanceMethod yX1_openSides ∈ wsL_law := wl_28 _ (List.mem_of_getElem? (i := 7) rfl)
theorem q_656 : Cond.selects RX1 yX1_openSides yX1_openSides ∈ wsL_law := wl_28 _ (List.mem_of_getElem? (i := 8) rfl)
theorem q_657 : Cond.code yX1_openSides cX1_openSides 3 (some .int) ∈ wsL_law := wl_28 _ (List.mem_of_getElem? (i := 9) rfl)
theorem q_658 : Cond.methodLink RX1 106 yX1_openAt ∈ wsL_law := wl_28 _ (List.mem_of_getElem? (i := 10) rfl)
theorem q_659 : Cond.instanceMethod yX1_openAt ∈ wsL_law := wl_28 _ (List.mem_of_getElem? (i := 11) rfl)
theorem q_660 : Cond.selects RX1 yX1_openAt yX1_openAt ∈ wsL_law := wl_28 _ (List.mem_of_getElem? (i := 12) rfl)
theorem q_661 : Cond.code yX1_openAt cX1_openAt 3 (some .int) ∈ wsL_law := wl_28 _ (List.mem_of_getElem? (i := 13) rfl)
theorem q_662 : Cond.methodLink RX4 219 yX1_parts ∈ wsL_law := wl_28 _ (List.mem_of_getElem? (i := 14) rfl)
theorem q_663 : Cond.instanceMethod yX1_parts ∈ wsL_law := wl_28 _ (List.mem_of_getElem? (i := 15) rfl)
theorem q_664 : Cond.selects RX1 yX1_parts yX1_parts ∈ wsL_law := wl_28 _ (List.mem_of_getElem? (i := 16) rfl)
theorem q_665 : Cond.code yX1_parts cX1_parts 4 (some .int) ∈ wsL_law := wl_28 _ (List.mem_of_getElem? (i := 17) rfl)
theorem q_666 : Cond.methodLink RX1 109 yX1_reach ∈ wsL_law := wl_28 _ (List.mem_of_getElem? (i := 18) rfl)
theorem q_667 : Cond.instanceMethod yX1_reach ∈ wsL_law := wl_28 _ (List.mem_of_getElem? (i := 19) rfl)
theorem q_668 : Cond.selects RX1 yX1_reach yX1_reach ∈ wsL_law := wl_28 _ (List.mem_of_getElem? (i := 20) rfl)
theorem q_669 : Cond.code yX1_reach cX1_reach 4 none ∈ wsL_law := wl_28 _ (List.mem_of_getElem? (i := 21) rfl)
theorem q_670 : Cond.methodLink RX1 113 yX1_reachAllFromQueue ∈ wsL_law := wl_28 _ (List.mem_of_getElem? (i := 22) rfl)
theorem q_671 : Cond.instanceMethod yX1_reachAllFromQueue ∈ wsL_law := wl_28 _ (List.mem_of_getElem? (i := 23) rfl)
theorem q_672 : Cond.selects RX1 yX1_reachAllFromQueue yX1_reachAllFromQueue ∈ wsL_law := wl_29 _ (List.mem_of_getElem? (i := 0) rfl)
theorem q_673 : Cond.code yX1_reachAllFromQueue cX1_reachAllFromQueue 4 none ∈ wsL_law := wl_29 _ (List.mem_of_getElem? (i := 1) rfl)
theorem q_674 : Cond.methodLink RX4 222 yX1_cellsWithLayers ∈ wsL_law := wl_29 _ (List.mem_of_getElem? (i := 2) rfl)
theorem q_675 : Cond.methodLink RX4 225 yX4_stallsNotCovered ∈ wsL_law := wl_29 _ (List.mem_of_getElem? (i := 3) rfl)
theorem q_676 : Cond.instanceMethod yX4_stallsNotCovered ∈ wsL_law := wl_29 _ (List.mem_of_getElem? (i := 4) rfl)
theorem q_677 : Cond.selects RX4 yX4_stallsNotCovered yX4_stallsNotCovered ∈ wsL_law := wl_29 _ (List.mem_of_getElem? (i := 5) rfl)
theorem q_678 : Cond.code yX4_stallsNotCovered cX4_stallsNotCovered 4 (some .int) ∈ wsL_law := wl_29 _ (List.mem_of_getElem? (i := 6) rfl)
theorem q_679 : Cond.methodLink RL 111 yX5_count ∈ wsL_law := wl_29 _ (List.mem_of_getElem? (i := 7) rfl)
theorem q_680 : Cond.instanceMethod yX5_count ∈ wsL_law := wl_29 _ (List.mem_of_getElem? (i := 8) rfl)
theorem q_681 : Cond.selects RX5 yX5_count yX5_count ∈ wsL_law := wl_29 _ (List.mem_of_getElem? (i := 9) rfl)
theorem q_682 : Cond.code yX5_count cX5_count 2 (some .int) ∈ wsL_law := wl_29 _ (List.mem_of_getElem? (i := 10) rfl)
theorem q_683 : Cond.methodLink RL 112 yL_would ∈ wsL_law := wl_29 _ (List.mem_of_getElem? (i := 11) rfl)
theorem q_684 : Cond.static yL_would ∈ wsL_law := wl_29 _ (List.mem_of_getElem? (i := 12) rfl)
theorem q_685 : Cond.codeWith yL_would cL_would 5 (some .int) [(0, 10, 13, 15), (0, 10, 17, 13)] ∈ wsL_law := wl_29 _ (List.mem_of_getElem? (i := 13) rfl)
theorem q_686 : Cond.methodLink RL 56 yX4_would ∈ wsL_law := wl_29 _ (List.mem_of_getElem? (i := 14) rfl)
theorem q_687 : Cond.instanceMethod yX4_would ∈ wsL_law := wl_29 _ (List.mem_of_getElem? (i := 15) rfl)
theorem q_688 : Cond.selects RX4 yX4_would yX4_would ∈ wsL_law := wl_29 _ (List.mem_of_getElem? (i := 16) rfl)
theorem q_689 : Cond.code yX4_would cX4_would 4 (some .int) ∈ wsL_law := wl_29 _ (List.mem_of_getElem? (i := 17) rfl)
theorem q_690 : Cond.methodLink RL 114 yX5_would ∈ wsL_law := wl_29 _ (List.mem_of_getElem? (i := 18) rfl)
theorem q_691 : Cond.instanceMethod yX5_would ∈ wsL_law := wl_29 _ (List.mem_of_getElem? (i := 19) rfl)
theorem q_692 : Cond.selects RX5 yX5_would yX5_would ∈ wsL_law := wl_29 _ (List.mem_of_getElem? (i := 20) rfl)
theorem q_693 : Cond.code yX5_would cX5_would 3 (some .int) ∈ wsL_law := wl_29 _ (List.mem_of_getElem? (i := 21) rfl)
theorem q_694 : Cond.methodLink RL 115 yL_best ∈ wsL_law := wl_29 _ (List.mem_of_getElem? (i := 22) rfl)
theorem q_695 : Cond.static yL_best ∈ wsL_law := wl_29 _ (List.mem_of_getElem? (i := 23) rfl)
theorem q_696 : Cond.codeWith yL_best cL_best 6 (some .int) [(0, 12, 15, 13), (0, 12, 19, 15)] ∈ wsL_law := wl_30 _ (List.mem_of_getElem? (i := 0) rfl)
theorem q_697 : Cond.methodLink RL 59 yX4_best ∈ wsL_law := wl_30 _ (List.mem_of_getElem? (i := 1) rfl)
theorem q_698 : Cond.instanceMethod yX4_best ∈ wsL_law := wl_30 _ (List.mem_of_getElem? (i := 2) rfl)
theorem q_699 : Cond.selects RX4 yX4_best yX4_best ∈ wsL_law := wl_30 _ (List.mem_of_getElem? (i := 3) rfl)
theorem q_700 : Cond.code yX4_best cX4_best 10 (some .int) ∈ wsL_law := wl_30 _ (List.mem_of_getElem? (i := 4) rfl)
theorem q_701 : Cond.methodLink RX4 228 yX1_notCoveredIn ∈ wsL_law := wl_30 _ (List.mem_of_getElem? (i := 5) rfl)
theorem q_702 : Cond.instanceMethod yX1_notCoveredIn ∈ wsL_law := wl_30 _ (List.mem_of_getElem? (i := 6) rfl)
theorem q_703 : Cond.selects RX1 yX1_notCoveredIn yX1_notCoveredIn ∈ wsL_law := wl_30 _ (List.mem_of_getElem? (i := 7) rfl)
theorem q_704 : Cond.code yX1_notCoveredIn cX1_notCoveredIn 8 (some .int) ∈ wsL_law := wl_30 _ (List.mem_of_getElem? (i := 8) rfl)
theorem q_705 : Cond.methodLink RL 117 yX5_best ∈ wsL_law := wl_30 _ (List.mem_of_getElem? (i := 9) rfl)
theorem q_706 : Cond.instanceMethod yX5_best ∈ wsL_law := wl_30 _ (List.mem_of_getElem? (i := 10) rfl)
theorem q_707 : Cond.selects RX5 yX5_best yX5_best ∈ wsL_law := wl_30 _ (List.mem_of_getElem? (i := 11) rfl)
theorem q_708 : Cond.code yX5_best cX5_best 10 (some .int) ∈ wsL_law := wl_30 _ (List.mem_of_getElem? (i := 12) rfl)
theorem q_709 : Cond.methodLink RL 118 yX4_advise ∈ wsL_law := wl_30 _ (List.mem_of_getElem? (i := 13) rfl)
theorem q_710 : Cond.instanceMethod yX4_advise ∈ wsL_law := wl_30 _ (List.mem_of_getElem? (i := 14) rfl)
theorem q_711 : Cond.selects RX4 yX4_advise yX4_advise ∈ wsL_law := wl_30 _ (List.mem_of_getElem? (i := 15) rfl)
theorem q_712 : Cond.code yX4_advise cX4_advise 6 (some .int) ∈ wsL_law := wl_30 _ (List.mem_of_getElem? (i := 16) rfl)
theorem q_713 : Cond.methodLink RL 121 yX5_advise ∈ wsL_law := wl_30 _ (List.mem_of_getElem? (i := 17) rfl)
theorem q_714 : Cond.instanceMethod yX5_advise ∈ wsL_law := wl_30 _ (List.mem_of_getElem? (i := 18) rfl)
theorem q_715 : Cond.selects RX5 yX5_advise yX5_advise ∈ wsL_law := wl_30 _ (List.mem_of_getElem? (i := 19) rfl)
theorem q_716 : Cond.code yX5_advise cX5_advise 3 (some .int) ∈ wsL_law := wl_30 _ (List.mem_of_getElem? (i := 20) rfl)
theorem q_717 : Cond.methodLink RL 122 yX4_mean ∈ wsL_law := wl_30 _ (List.mem_of_getElem? (i := 21) rfl)
theorem q_718 : Cond.instanceMethod yX4_mean ∈ wsL_law := wl_30 _ (List.mem_of_getElem? (i := 22) rfl)
theorem q_719 : Cond.selects RX4 yX4_mean yX4_mean ∈ wsL_law := wl_30 _ (List.mem_of_getElem? (i := 23) rfl)
theorem q_720 : Cond.code yX4_mean cX4_mean 4 (some .double) ∈ wsL_law := wl_31 _ (List.mem_of_getElem? (i := 0) rfl)
theorem q_721 : Cond.methodLink RL 126 yX5_mean ∈ wsL_law := wl_31 _ (List.mem_of_getElem? (i := 1) rfl)
theorem q_722 : Cond.instanceMethod yX5_mean ∈ wsL_law := wl_31 _ (List.mem_of_getElem? (i := 2) rfl)
theorem q_723 : Cond.selects RX5 yX5_mean yX5_mean ∈ wsL_law := wl_31 _ (List.mem_of_getElem? (i := 3) rfl)
theorem q_724 : Cond.code yX5_mean cX5_mean 3 (some .double) ∈ wsL_law := wl_31 _ (List.mem_of_getElem? (i := 4) rfl)
theorem q_725 : Cond.methodLink RL 127 yX4_digest ∈ wsL_law := wl_31 _ (List.mem_of_getElem? (i := 5) rfl)
theorem q_726 : Cond.instanceMethod yX4_digest ∈ wsL_law := wl_31 _ (List.mem_of_getElem? (i := 6) rfl)
theorem q_727 : Cond.selects RX4 yX4_digest yX4_digest ∈ wsL_law := wl_31 _ (List.mem_of_getElem? (i := 7) rfl)
theorem q_728 : Cond.code yX4_digest cX4_digest 5 (some .long) ∈ wsL_law := wl_31 _ (List.mem_of_getElem? (i := 8) rfl)
theorem q_729 : Cond.constantLong RX4 232 (1741) ∈ wsL_law := wl_31 _ (List.mem_of_getElem? (i := 9) rfl)
theorem q_730 : Cond.constantLong RX4 234 (31) ∈ wsL_law := wl_31 _ (List.mem_of_getElem? (i := 10) rfl)
theorem q_731 : Cond.methodLink RX4 236 yX4_count ∈ wsL_law := wl_31 _ (List.mem_of_getElem? (i := 11) rfl)
theorem q_732 : Cond.methodLink RX4 239 yX4_about ∈ wsL_law := wl_31 _ (List.mem_of_getElem? (i := 12) rfl)
theorem q_733 : Cond.methodLink RX4 242 yX4_told ∈ wsL_law := wl_31 _ (List.mem_of_getElem? (i := 13) rfl)
theorem q_734 : Cond.methodLink RX4 245 yX4_digestOfColumn ∈ wsL_law := wl_31 _ (List.mem_of_getElem? (i := 14) rfl)
theorem q_735 : Cond.instanceMethod yX4_digestOfColumn ∈ wsL_law := wl_31 _ (List.mem_of_getElem? (i := 15) rfl)
theorem q_736 : Cond.selects RX4 yX4_digestOfColumn yX4_digestOfColumn ∈ wsL_law := wl_31 _ (List.mem_of_getElem? (i := 16) rfl)
theorem q_737 : Cond.code yX4_digestOfColumn cX4_digestOfColumn 8 (some .long) ∈ wsL_law := wl_31 _ (List.mem_of_getElem? (i := 17) rfl)
theorem q_738 : Cond.methodLink RX4 249 yX4_cord ∈ wsL_law := wl_31 _ (List.mem_of_getElem? (i := 18) rfl)
theorem q_739 : Cond.methodLink RX4 252 yX4_cell ∈ wsL_law := wl_31 _ (List.mem_of_getElem? (i := 19) rfl)
theorem q_740 : Cond.methodLink RL 131 yX5_digest ∈ wsL_law := wl_31 _ (List.mem_of_getElem? (i := 20) rfl)
theorem q_741 : Cond.instanceMethod yX5_digest ∈ wsL_law := wl_31 _ (List.mem_of_getElem? (i := 21) rfl)
theorem q_742 : Cond.selects RX5 yX5_digest yX5_digest ∈ wsL_law := wl_31 _ (List.mem_of_getElem? (i := 22) rfl)
theorem q_743 : Cond.code yX5_digest cX5_digest 6 (some .long) ∈ wsL_law := wl_31 _ (List.mem_of_getElem? (i := 23) rfl)
theorem q_744 : Cond.constantLong RX5 169 (1741) ∈ wsL_law := wl_32 _ (List.mem_of_getElem? (i := 0) rfl)
theorem q_745 : Cond.constantLong RX5 171 (31) ∈ wsL_law := wl_32 _ (List.mem_of_getElem? (i := 1) rfl)
end

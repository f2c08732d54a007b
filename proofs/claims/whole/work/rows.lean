section
-- ===== PART A: goes FIRST, ahead of the names: the tables' words, and 'selects' of the private methods out of them =====
/-- a private method of a class that the tables say can be made, by its rows of tables_1 -/
def lw_okq (q : MethodName × Nat) : Prop := (q.1.cls ≠ "java/lang/invoke/MethodHandle" ∧ q.1.cls ≠ "java/lang/invoke/VarHandle") ∧ Cond.instantiable q.1.cls q.2 ∈ tables_1 ∧ Cond.privateMethod q.1 ∈ tables_1 ∧ Cond.instanceMethod q.1 ∈ tables_1
theorem lw_p0 : lw_okq (⟨"java/lang/Throwable", "fillInStackTrace", "(I)Ljava/lang/Throwable;"⟩, 6) := ⟨⟨by decide +kernel, by decide +kernel⟩, List.mem_of_getElem? (i := 182) (by decide +kernel), List.mem_of_getElem? (i := 180) (by decide +kernel), List.mem_of_getElem? (i := 181) (by decide +kernel)⟩
theorem lw_p1 : lw_okq (⟨"MarketAwnings", "numberedStall", "(I)LMarketAwnings$Stall;"⟩, 7) := ⟨⟨by decide +kernel, by decide +kernel⟩, List.mem_of_getElem? (i := 23) (by decide +kernel), List.mem_of_getElem? (i := 243) (by decide +kernel), List.mem_of_getElem? (i := 244) (by decide +kernel)⟩
theorem lw_p2 : lw_okq (⟨"MarketAwnings", "gotBy", "(LMarketAwnings$Stall;)I"⟩, 7) := ⟨⟨by decide +kernel, by decide +kernel⟩, List.mem_of_getElem? (i := 23) (by decide +kernel), List.mem_of_getElem? (i := 252) (by decide +kernel), List.mem_of_getElem? (i := 253) (by decide +kernel)⟩
theorem lw_p3 : lw_okq (⟨"MarketAwnings", "groundAt", "(II)I"⟩, 7) := ⟨⟨by decide +kernel, by decide +kernel⟩, List.mem_of_getElem? (i := 23) (by decide +kernel), List.mem_of_getElem? (i := 256) (by decide +kernel), List.mem_of_getElem? (i := 257) (by decide +kernel)⟩
theorem lw_p4 : lw_okq (⟨"MarketAwnings$Canopy", "openSides", "(II)I"⟩, 5) := ⟨⟨by decide +kernel, by decide +kernel⟩, List.mem_of_getElem? (i := 31) (by decide +kernel), List.mem_of_getElem? (i := 291) (by decide +kernel), List.mem_of_getElem? (i := 292) (by decide +kernel)⟩
theorem lw_p5 : lw_okq (⟨"MarketAwnings$Canopy", "openAt", "(II)I"⟩, 5) := ⟨⟨by decide +kernel, by decide +kernel⟩, List.mem_of_getElem? (i := 31) (by decide +kernel), List.mem_of_getElem? (i := 295) (by decide +kernel), List.mem_of_getElem? (i := 296) (by decide +kernel)⟩
theorem lw_p6 : lw_okq (⟨"MarketAwnings$Canopy", "reach", "(II)V"⟩, 5) := ⟨⟨by decide +kernel, by decide +kernel⟩, List.mem_of_getElem? (i := 31) (by decide +kernel), List.mem_of_getElem? (i := 306) (by decide +kernel), List.mem_of_getElem? (i := 307) (by decide +kernel)⟩
theorem lw_p7 : lw_okq (⟨"MarketAwnings$Canopy", "reachAllFromQueue", "()V"⟩, 5) := ⟨⟨by decide +kernel, by decide +kernel⟩, List.mem_of_getElem? (i := 31) (by decide +kernel), List.mem_of_getElem? (i := 310) (by decide +kernel), List.mem_of_getElem? (i := 311) (by decide +kernel)⟩
theorem lw_p8 : lw_okq (⟨"MarketAwnings", "stallsNotCovered", "()I"⟩, 7) := ⟨⟨by decide +kernel, by decide +kernel⟩, List.mem_of_getElem? (i := 23) (by decide +kernel), List.mem_of_getElem? (i := 315) (by decide +kernel), List.mem_of_getElem? (i := 316) (by decide +kernel)⟩
theorem lw_p9 : lw_okq (⟨"MarketAwnings", "digestOfColumn", "(JI)J"⟩, 7) := ⟨⟨by decide +kernel, by decide +kernel⟩, List.mem_of_getElem? (i := 23) (by decide +kernel), List.mem_of_getElem? (i := 328) (by decide +kernel), List.mem_of_getElem? (i := 329) (by decide +kernel)⟩
theorem lw_p10 : lw_okq (⟨"java/util/ArrayList", "add", "(Ljava/lang/Object;[Ljava/lang/Object;I)V"⟩, 3) := ⟨⟨by decide +kernel, by decide +kernel⟩, List.mem_of_getElem? (i := 37) (by decide +kernel), List.mem_of_getElem? (i := 478) (by decide +kernel), List.mem_of_getElem? (i := 479) (by decide +kernel)⟩
theorem lw_p11 : lw_okq (⟨"java/util/ArrayList", "grow", "()[Ljava/lang/Object;"⟩, 3) := ⟨⟨by decide +kernel, by decide +kernel⟩, List.mem_of_getElem? (i := 37) (by decide +kernel), List.mem_of_getElem? (i := 482) (by decide +kernel), List.mem_of_getElem? (i := 483) (by decide +kernel)⟩
theorem lw_p12 : lw_okq (⟨"java/util/ArrayList", "grow", "(I)[Ljava/lang/Object;"⟩, 3) := ⟨⟨by decide +kernel, by decide +kernel⟩, List.mem_of_getElem? (i := 37) (by decide +kernel), List.mem_of_getElem? (i := 486) (by decide +kernel), List.mem_of_getElem? (i := 487) (by decide +kernel)⟩
theorem lw_p13 : lw_okq (⟨"MarketAwnings$Canopy", "layOver", "(LMarketAwnings$Awning;)V"⟩, 5) := ⟨⟨by decide +kernel, by decide +kernel⟩, List.mem_of_getElem? (i := 31) (by decide +kernel), List.mem_of_getElem? (i := 533) (by decide +kernel), List.mem_of_getElem? (i := 534) (by decide +kernel)⟩
theorem lw_p14 : lw_okq (⟨"java/util/ArrayList", "fastRemove", "([Ljava/lang/Object;I)V"⟩, 3) := ⟨⟨by decide +kernel, by decide +kernel⟩, List.mem_of_getElem? (i := 37) (by decide +kernel), List.mem_of_getElem? (i := 567) (by decide +kernel), List.mem_of_getElem? (i := 568) (by decide +kernel)⟩
theorem lw_p15 : lw_okq (⟨"MarketAwnings", "hasStallAt", "(II)Z"⟩, 7) := ⟨⟨by decide +kernel, by decide +kernel⟩, List.mem_of_getElem? (i := 23) (by decide +kernel), List.mem_of_getElem? (i := 580) (by decide +kernel), List.mem_of_getElem? (i := 581) (by decide +kernel)⟩
def lw_privs_1 : List (MethodName × Nat) := [(⟨"java/lang/Throwable", "fillInStackTrace", "(I)Ljava/lang/Throwable;"⟩, 6), (⟨"MarketAwnings", "numberedStall", "(I)LMarketAwnings$Stall;"⟩, 7), (⟨"MarketAwnings", "gotBy", "(LMarketAwnings$Stall;)I"⟩, 7), (⟨"MarketAwnings", "groundAt", "(II)I"⟩, 7), (⟨"MarketAwnings$Canopy", "openSides", "(II)I"⟩, 5), (⟨"MarketAwnings$Canopy", "openAt", "(II)I"⟩, 5), (⟨"MarketAwnings$Canopy", "reach", "(II)V"⟩, 5), (⟨"MarketAwnings$Canopy", "reachAllFromQueue", "()V"⟩, 5), (⟨"MarketAwnings", "stallsNotCovered", "()I"⟩, 7), (⟨"MarketAwnings", "digestOfColumn", "(JI)J"⟩, 7), (⟨"java/util/ArrayList", "add", "(Ljava/lang/Object;[Ljava/lang/Object;I)V"⟩, 3), (⟨"java/util/ArrayList", "grow", "()[Ljava/lang/Object;"⟩, 3), (⟨"java/util/ArrayList", "grow", "(I)[Ljava/lang/Object;"⟩, 3), (⟨"MarketAwnings$Canopy", "layOver", "(LMarketAwnings$Awning;)V"⟩, 5), (⟨"java/util/ArrayList", "fastRemove", "([Ljava/lang/Object;I)V"⟩, 3), (⟨"MarketAwnings", "hasStallAt", "(II)Z"⟩, 7)]
theorem lw_r1 : ∀ q ∈ lw_privs_1, lw_okq q := List.forall_mem_cons.mpr ⟨lw_p0, List.forall_mem_cons.mpr ⟨lw_p1, List.forall_mem_cons.mpr ⟨lw_p2, List.forall_mem_cons.mpr ⟨lw_p3, List.forall_mem_cons.mpr ⟨lw_p4, List.forall_mem_cons.mpr ⟨lw_p5, List.forall_mem_cons.mpr ⟨lw_p6, List.forall_mem_cons.mpr ⟨lw_p7, List.forall_mem_cons.mpr ⟨lw_p8, List.forall_mem_cons.mpr ⟨lw_p9, List.forall_mem_cons.mpr ⟨lw_p10, List.forall_mem_cons.mpr ⟨lw_p11, List.forall_mem_cons.mpr ⟨lw_p12, List.forall_mem_cons.mpr ⟨lw_p13, List.forall_mem_cons.mpr ⟨lw_p14, List.forall_mem_cons.mpr ⟨lw_p15, fun _ h => absurd h List.not_mem_nil⟩⟩⟩⟩⟩⟩⟩⟩⟩⟩⟩⟩⟩⟩⟩⟩
theorem lw_p16 : lw_okq (⟨"MarketAwnings$Shower", "dry", "()V"⟩, 5) := ⟨⟨by decide +kernel, by decide +kernel⟩, List.mem_of_getElem? (i := 80) (by decide +kernel), List.mem_of_getElem? (i := 619) (by decide +kernel), List.mem_of_getElem? (i := 620) (by decide +kernel)⟩
theorem lw_p17 : lw_okq (⟨"MarketAwnings$Shower", "land", "(IIII)V"⟩, 5) := ⟨⟨by decide +kernel, by decide +kernel⟩, List.mem_of_getElem? (i := 80) (by decide +kernel), List.mem_of_getElem? (i := 624) (by decide +kernel), List.mem_of_getElem? (i := 625) (by decide +kernel)⟩
theorem lw_p18 : lw_okq (⟨"MarketAwnings$Shower", "dripFromLevel", "(I)V"⟩, 5) := ⟨⟨by decide +kernel, by decide +kernel⟩, List.mem_of_getElem? (i := 80) (by decide +kernel), List.mem_of_getElem? (i := 630) (by decide +kernel), List.mem_of_getElem? (i := 631) (by decide +kernel)⟩
theorem lw_p19 : lw_okq (⟨"MarketAwnings$Shower", "drip", "(LMarketAwnings$Awning;I)V"⟩, 5) := ⟨⟨by decide +kernel, by decide +kernel⟩, List.mem_of_getElem? (i := 80) (by decide +kernel), List.mem_of_getElem? (i := 640) (by decide +kernel), List.mem_of_getElem? (i := 641) (by decide +kernel)⟩
theorem lw_p20 : lw_okq (⟨"MarketAwningsModel", "no", "(I)I"⟩, 11) := ⟨⟨by decide +kernel, by decide +kernel⟩, List.mem_of_getElem? (i := 712) (by decide +kernel), List.mem_of_getElem? (i := 763) (by decide +kernel), List.mem_of_getElem? (i := 764) (by decide +kernel)⟩
theorem lw_p21 : lw_okq (⟨"MarketAwningsModel", "isAwning", "(I)Z"⟩, 11) := ⟨⟨by decide +kernel, by decide +kernel⟩, List.mem_of_getElem? (i := 712) (by decide +kernel), List.mem_of_getElem? (i := 775) (by decide +kernel), List.mem_of_getElem? (i := 776) (by decide +kernel)⟩
theorem lw_p22 : lw_okq (⟨"MarketAwningsModel", "of", "(II)I"⟩, 11) := ⟨⟨by decide +kernel, by decide +kernel⟩, List.mem_of_getElem? (i := 712) (by decide +kernel), List.mem_of_getElem? (i := 779) (by decide +kernel), List.mem_of_getElem? (i := 780) (by decide +kernel)⟩
theorem lw_p23 : lw_okq (⟨"MarketAwningsModel", "isOut", "(I)Z"⟩, 11) := ⟨⟨by decide +kernel, by decide +kernel⟩, List.mem_of_getElem? (i := 712) (by decide +kernel), List.mem_of_getElem? (i := 783) (by decide +kernel), List.mem_of_getElem? (i := 784) (by decide +kernel)⟩
theorem lw_p24 : lw_okq (⟨"MarketAwningsModel", "counted", "(I)I"⟩, 11) := ⟨⟨by decide +kernel, by decide +kernel⟩, List.mem_of_getElem? (i := 712) (by decide +kernel), List.mem_of_getElem? (i := 791) (by decide +kernel), List.mem_of_getElem? (i := 792) (by decide +kernel)⟩
theorem lw_p25 : lw_okq (⟨"MarketAwningsModel", "out", "()I"⟩, 11) := ⟨⟨by decide +kernel, by decide +kernel⟩, List.mem_of_getElem? (i := 712) (by decide +kernel), List.mem_of_getElem? (i := 795) (by decide +kernel), List.mem_of_getElem? (i := 796) (by decide +kernel)⟩
theorem lw_p26 : lw_okq (⟨"MarketAwningsModel", "outline", "()I"⟩, 11) := ⟨⟨by decide +kernel, by decide +kernel⟩, List.mem_of_getElem? (i := 712) (by decide +kernel), List.mem_of_getElem? (i := 799) (by decide +kernel), List.mem_of_getElem? (i := 800) (by decide +kernel)⟩
theorem lw_p27 : lw_okq (⟨"MarketAwningsModel", "covered", "(I)I"⟩, 11) := ⟨⟨by decide +kernel, by decide +kernel⟩, List.mem_of_getElem? (i := 712) (by decide +kernel), List.mem_of_getElem? (i := 803) (by decide +kernel), List.mem_of_getElem? (i := 804) (by decide +kernel)⟩
theorem lw_p28 : lw_okq (⟨"MarketAwningsModel", "covered", "(II)I"⟩, 11) := ⟨⟨by decide +kernel, by decide +kernel⟩, List.mem_of_getElem? (i := 712) (by decide +kernel), List.mem_of_getElem? (i := 807) (by decide +kernel), List.mem_of_getElem? (i := 808) (by decide +kernel)⟩
theorem lw_p29 : lw_okq (⟨"MarketAwningsModel", "bits", "(II)I"⟩, 11) := ⟨⟨by decide +kernel, by decide +kernel⟩, List.mem_of_getElem? (i := 712) (by decide +kernel), List.mem_of_getElem? (i := 811) (by decide +kernel), List.mem_of_getElem? (i := 812) (by decide +kernel)⟩
theorem lw_p30 : lw_okq (⟨"MarketAwningsModel", "parts", "()I"⟩, 11) := ⟨⟨by decide +kernel, by decide +kernel⟩, List.mem_of_getElem? (i := 712) (by decide +kernel), List.mem_of_getElem? (i := 821) (by decide +kernel), List.mem_of_getElem? (i := 822) (by decide +kernel)⟩
theorem lw_p31 : lw_okq (⟨"MarketAwningsModel", "open", "()I"⟩, 11) := ⟨⟨by decide +kernel, by decide +kernel⟩, List.mem_of_getElem? (i := 712) (by decide +kernel), List.mem_of_getElem? (i := 828) (by decide +kernel), List.mem_of_getElem? (i := 829) (by decide +kernel)⟩
def lw_privs_2 : List (MethodName × Nat) := [(⟨"MarketAwnings$Shower", "dry", "()V"⟩, 5), (⟨"MarketAwnings$Shower", "land", "(IIII)V"⟩, 5), (⟨"MarketAwnings$Shower", "dripFromLevel", "(I)V"⟩, 5), (⟨"MarketAwnings$Shower", "drip", "(LMarketAwnings$Awning;I)V"⟩, 5), (⟨"MarketAwningsModel", "no", "(I)I"⟩, 11), (⟨"MarketAwningsModel", "isAwning", "(I)Z"⟩, 11), (⟨"MarketAwningsModel", "of", "(II)I"⟩, 11), (⟨"MarketAwningsModel", "isOut", "(I)Z"⟩, 11), (⟨"MarketAwningsModel", "counted", "(I)I"⟩, 11), (⟨"MarketAwningsModel", "out", "()I"⟩, 11), (⟨"MarketAwningsModel", "outline", "()I"⟩, 11), (⟨"MarketAwningsModel", "covered", "(I)I"⟩, 11), (⟨"MarketAwningsModel", "covered", "(II)I"⟩, 11), (⟨"MarketAwningsModel", "bits", "(II)I"⟩, 11), (⟨"MarketAwningsModel", "parts", "()I"⟩, 11), (⟨"MarketAwningsModel", "open", "()I"⟩, 11)]
theorem lw_r2 : ∀ q ∈ lw_privs_2, lw_okq q := List.forall_mem_cons.mpr ⟨lw_p16, List.forall_mem_cons.mpr ⟨lw_p17, List.forall_mem_cons.mpr ⟨lw_p18, List.forall_mem_cons.mpr ⟨lw_p19, List.forall_mem_cons.mpr ⟨lw_p20, List.forall_mem_cons.mpr ⟨lw_p21, List.forall_mem_cons.mpr ⟨lw_p22, List.forall_mem_cons.mpr ⟨lw_p23, List.forall_mem_cons.mpr ⟨lw_p24, List.forall_mem_cons.mpr ⟨lw_p25, List.forall_mem_cons.mpr ⟨lw_p26, List.forall_mem_cons.mpr ⟨lw_p27, List.forall_mem_cons.mpr ⟨lw_p28, List.forall_mem_cons.mpr ⟨lw_p29, List.forall_mem_cons.mpr ⟨lw_p30, List.forall_mem_cons.mpr ⟨lw_p31, fun _ h => absurd h List.not_mem_nil⟩⟩⟩⟩⟩⟩⟩⟩⟩⟩⟩⟩⟩⟩⟩⟩
theorem lw_p32 : lw_okq (⟨"MarketAwningsModel", "stallTold", "(II)I"⟩, 11) := ⟨⟨by decide +kernel, by decide +kernel⟩, List.mem_of_getElem? (i := 712) (by decide +kernel), List.mem_of_getElem? (i := 832) (by decide +kernel), List.mem_of_getElem? (i := 833) (by decide +kernel)⟩
theorem lw_p33 : lw_okq (⟨"MarketAwningsModel", "got", "(I)I"⟩, 11) := ⟨⟨by decide +kernel, by decide +kernel⟩, List.mem_of_getElem? (i := 712) (by decide +kernel), List.mem_of_getElem? (i := 836) (by decide +kernel), List.mem_of_getElem? (i := 837) (by decide +kernel)⟩
theorem lw_p34 : lw_okq (⟨"MarketAwningsModel", "lying", "(II)I"⟩, 11) := ⟨⟨by decide +kernel, by decide +kernel⟩, List.mem_of_getElem? (i := 712) (by decide +kernel), List.mem_of_getElem? (i := 840) (by decide +kernel), List.mem_of_getElem? (i := 841) (by decide +kernel)⟩
theorem lw_p35 : lw_okq (⟨"MarketAwningsModel", "sumOf", "(I)I"⟩, 11) := ⟨⟨by decide +kernel, by decide +kernel⟩, List.mem_of_getElem? (i := 712) (by decide +kernel), List.mem_of_getElem? (i := 844) (by decide +kernel), List.mem_of_getElem? (i := 845) (by decide +kernel)⟩
theorem lw_p36 : lw_okq (⟨"MarketAwningsModel", "pour", "(I)I"⟩, 11) := ⟨⟨by decide +kernel, by decide +kernel⟩, List.mem_of_getElem? (i := 712) (by decide +kernel), List.mem_of_getElem? (i := 863) (by decide +kernel), List.mem_of_getElem? (i := 864) (by decide +kernel)⟩
theorem lw_p37 : lw_okq (⟨"MarketAwningsModel", "fall", "(IIII)V"⟩, 11) := ⟨⟨by decide +kernel, by decide +kernel⟩, List.mem_of_getElem? (i := 712) (by decide +kernel), List.mem_of_getElem? (i := 867) (by decide +kernel), List.mem_of_getElem? (i := 868) (by decide +kernel)⟩
theorem lw_p38 : lw_okq (⟨"MarketAwningsModel", "highest", "(III)I"⟩, 11) := ⟨⟨by decide +kernel, by decide +kernel⟩, List.mem_of_getElem? (i := 712) (by decide +kernel), List.mem_of_getElem? (i := 871) (by decide +kernel), List.mem_of_getElem? (i := 872) (by decide +kernel)⟩
theorem lw_p39 : lw_okq (⟨"MarketAwningsModel", "below", "(I)I"⟩, 11) := ⟨⟨by decide +kernel, by decide +kernel⟩, List.mem_of_getElem? (i := 712) (by decide +kernel), List.mem_of_getElem? (i := 875) (by decide +kernel), List.mem_of_getElem? (i := 876) (by decide +kernel)⟩
theorem lw_p40 : lw_okq (⟨"MarketAwningsModel", "isHigher", "(II)Z"⟩, 11) := ⟨⟨by decide +kernel, by decide +kernel⟩, List.mem_of_getElem? (i := 712) (by decide +kernel), List.mem_of_getElem? (i := 879) (by decide +kernel), List.mem_of_getElem? (i := 880) (by decide +kernel)⟩
theorem lw_p41 : lw_okq (⟨"MarketAwningsModel", "drip", "(I)I"⟩, 11) := ⟨⟨by decide +kernel, by decide +kernel⟩, List.mem_of_getElem? (i := 712) (by decide +kernel), List.mem_of_getElem? (i := 883) (by decide +kernel), List.mem_of_getElem? (i := 884) (by decide +kernel)⟩
theorem lw_p42 : lw_okq (⟨"MarketAwningsModel", "awningTold", "(II)I"⟩, 11) := ⟨⟨by decide +kernel, by decide +kernel⟩, List.mem_of_getElem? (i := 712) (by decide +kernel), List.mem_of_getElem? (i := 891) (by decide +kernel), List.mem_of_getElem? (i := 892) (by decide +kernel)⟩
theorem lw_p43 : lw_okq (⟨"MarketAwningsModel", "own", "(I)I"⟩, 11) := ⟨⟨by decide +kernel, by decide +kernel⟩, List.mem_of_getElem? (i := 712) (by decide +kernel), List.mem_of_getElem? (i := 895) (by decide +kernel), List.mem_of_getElem? (i := 896) (by decide +kernel)⟩
theorem lw_p44 : lw_okq (⟨"MarketAwningsModel", "cellTold", "(III)I"⟩, 11) := ⟨⟨by decide +kernel, by decide +kernel⟩, List.mem_of_getElem? (i := 712) (by decide +kernel), List.mem_of_getElem? (i := 903) (by decide +kernel), List.mem_of_getElem? (i := 904) (by decide +kernel)⟩
theorem lw_p45 : lw_okq (⟨"MarketAwningsModel", "cordTold", "(II)I"⟩, 11) := ⟨⟨by decide +kernel, by decide +kernel⟩, List.mem_of_getElem? (i := 712) (by decide +kernel), List.mem_of_getElem? (i := 911) (by decide +kernel), List.mem_of_getElem? (i := 912) (by decide +kernel)⟩
theorem lw_p46 : lw_okq (⟨"MarketAwningsModel", "deepest", "(I)I"⟩, 11) := ⟨⟨by decide +kernel, by decide +kernel⟩, List.mem_of_getElem? (i := 712) (by decide +kernel), List.mem_of_getElem? (i := 918) (by decide +kernel), List.mem_of_getElem? (i := 919) (by decide +kernel)⟩
theorem lw_p47 : lw_okq (⟨"MarketAwningsModel", "isStall", "(I)Z"⟩, 11) := ⟨⟨by decide +kernel, by decide +kernel⟩, List.mem_of_getElem? (i := 712) (by decide +kernel), List.mem_of_getElem? (i := 927) (by decide +kernel), List.mem_of_getElem? (i := 928) (by decide +kernel)⟩
def lw_privs_3 : List (MethodName × Nat) := [(⟨"MarketAwningsModel", "stallTold", "(II)I"⟩, 11), (⟨"MarketAwningsModel", "got", "(I)I"⟩, 11), (⟨"MarketAwningsModel", "lying", "(II)I"⟩, 11), (⟨"MarketAwningsModel", "sumOf", "(I)I"⟩, 11), (⟨"MarketAwningsModel", "pour", "(I)I"⟩, 11), (⟨"MarketAwningsModel", "fall", "(IIII)V"⟩, 11), (⟨"MarketAwningsModel", "highest", "(III)I"⟩, 11), (⟨"MarketAwningsModel", "below", "(I)I"⟩, 11), (⟨"MarketAwningsModel", "isHigher", "(II)Z"⟩, 11), (⟨"MarketAwningsModel", "drip", "(I)I"⟩, 11), (⟨"MarketAwningsModel", "awningTold", "(II)I"⟩, 11), (⟨"MarketAwningsModel", "own", "(I)I"⟩, 11), (⟨"MarketAwningsModel", "cellTold", "(III)I"⟩, 11), (⟨"MarketAwningsModel", "cordTold", "(II)I"⟩, 11), (⟨"MarketAwningsModel", "deepest", "(I)I"⟩, 11), (⟨"MarketAwningsModel", "isStall", "(I)Z"⟩, 11)]
theorem lw_r3 : ∀ q ∈ lw_privs_3, lw_okq q := List.forall_mem_cons.mpr ⟨lw_p32, List.forall_mem_cons.mpr ⟨lw_p33, List.forall_mem_cons.mpr ⟨lw_p34, List.forall_mem_cons.mpr ⟨lw_p35, List.forall_mem_cons.mpr ⟨lw_p36, List.forall_mem_cons.mpr ⟨lw_p37, List.forall_mem_cons.mpr ⟨lw_p38, List.forall_mem_cons.mpr ⟨lw_p39, List.forall_mem_cons.mpr ⟨lw_p40, List.forall_mem_cons.mpr ⟨lw_p41, List.forall_mem_cons.mpr ⟨lw_p42, List.forall_mem_cons.mpr ⟨lw_p43, List.forall_mem_cons.mpr ⟨lw_p44, List.forall_mem_cons.mpr ⟨lw_p45, List.forall_mem_cons.mpr ⟨lw_p46, List.forall_mem_cons.mpr ⟨lw_p47, fun _ h => absurd h List.not_mem_nil⟩⟩⟩⟩⟩⟩⟩⟩⟩⟩⟩⟩⟩⟩⟩⟩
def lw_privs : List (MethodName × Nat) := lw_privs_1 ++ (lw_privs_2 ++ (lw_privs_3))
def lw_tbl : List Cond := k2_sels lw_privs ++ tables_1
theorem lw_privs_ok : ∀ q ∈ lw_privs, lw_okq q := by
  show ∀ q ∈ lw_privs_1 ++ (lw_privs_2 ++ (lw_privs_3)), lw_okq q
  exact List.forall_mem_append.mpr ⟨lw_r1, List.forall_mem_append.mpr ⟨lw_r2, lw_r3⟩⟩
/-- the streams that the claim lets the run draw from -/
abbrev lw_cs : List Choice := [Jvm.Choice.named "NaN.bits"]
theorem lw_bits : nanBits ∈ lw_cs := by first | decide | exact List.mem_cons_self | simp [lw_cs, nanBits]
/-! ===== BEGIN words of one list among another's, by their places ===== -/
theorem goodIn_r {big : List Cond} (ws : List Cond) (ps : List Nat) (hp : ws = ps.filterMap (fun i => big[i]?)) (h : ws.all goodWord = true) : GoodIn big ws := by
  intro w hw
  have h1 := List.all_eq_true.mp h w hw
  rw [hp] at hw
  obtain ⟨i, -, hi⟩ := List.mem_filterMap.mp hw
  have hm : w ∈ big := by first | exact List.mem_of_getElem? hi | exact List.getElem?_mem hi
  exact ⟨hm, good_of_word h1⟩
theorem goodIn_app {big a b : List Cond} (ha : GoodIn big a) (hb : GoodIn big b) : GoodIn big (a ++ b) := fun w h => (List.mem_append.mp h).elim (ha w) (hb w)
theorem goodIn_ca {big a b : List Cond} {c : Cond} (ha : GoodIn big (c :: a)) (hb : GoodIn big b) : GoodIn big (c :: (a ++ b)) := fun w h => (List.mem_cons.mp h).elim (fun e => ha w (List.mem_cons.mpr (Or.inl e))) (fun h => (List.mem_append.mp h).elim (fun h => ha w (List.mem_cons.mpr (Or.inr h))) (hb w))
theorem goodIn_sub {big ws : List Cond} (hm : ∀ w ∈ ws, w ∈ big) (h : ws.all goodWord = true) : GoodIn big ws := fun w hw => ⟨hm w hw, good_of_word (List.all_eq_true.mp h w hw)⟩
/-! ===== END ===== -/

/-! ===== BEGIN exceptions that leave a method, and their catching by the caller (launches without stack traces) ===== -/
section VXA
/-! The laws vx_back, vx_callV, vx_callS, vx_callSW, vx_throw0, vx_throwS follow proofs of the library, with one case more: JvmDerived/Free/Laws.lean (Back.of_free), Shelf42/LK1.lean (callV, callS), Shelf/KitTraced.lean (throwNew0V, throwNewS). -/
/-- where a method has thrown q: the class by its name, the cell, what was written, the world -/
def vx_T (XC : String → State → State → Prop) (st : State) (q : Addr) (t : State) (mc ms : Nat) (free : Addr → Prop) : Prop :=
  ∃ (E : String) (ce : Cell) (L : List Loc), XC E st t ∧ t.heap[q]? = some ce ∧ ce.vm = .none ∧ st.vm.findClass E = some ce.cls ∧ st.WarmedH t.vm ∧ st.sameButNew ({ t with vm := st.vm } : State) L mc ms ∧ ∀ z ∈ L, free z.base
def vx_Q (Qc : Array Value → State → Outcome → State → Prop) (XC : String → State → State → Prop) (mc ms : Nat) (free : Addr → Prop) : Array Value → State → Outcome → State → Prop := fun a st o t =>
  (Qc a st o t ∧ ∃ L, FrameEnd st o t L mc ms ∧ ∀ q ∈ L, free q.base) ∨ ∃ q, o = .threw q ∧ vx_T XC st q t mc ms free
/-- a callee that returns or throws -/
def vx_Met (l : Launch) (y : MethodName) (ws : List Cond) (rm : Room) (Pc : Array Value → State → Prop) (Qc : Array Value → State → Outcome → State → Prop) (XC : String → State → State → Prop) (mc ms : Nat) (free : Addr → Prop) : Prop :=
  MetFree l y (headSpec ws rm) Pc (fun _ _ _ _ _ => True) (vx_Q Qc XC mc ms free)
def vx_Post (XC : String → State → State → Prop) (mc ms : Nat) (free : Addr → Prop) : Pt → Array Value → Addr → Pt → Prop := fun A a q B =>
  ∃ (g : JFrame) (mk : MethodId) (t : State) (L : List Loc) (E : String) (ce : Cell), B.U.heap = t.heap ∧ B.U.vm = t.vm ∧ XC E (A.U.calling g mk a) t ∧ t.heap[q]? = some ce ∧ ce.vm = .none ∧ A.U.vm.findClass E = some ce.cls ∧ B.locs = A.locs ++ L ∧ (∀ z ∈ L, free z.base) ∧ B.cells = A.cells + mc ∧ B.slots = A.slots + ms
def vx_Back (l : Launch) (R : Room) (p : Program) (e : Env) (below : List Frame) (s : State) (sargs : Array Value) (y : MethodName) (len W9 : Nat)
    (Pre : Pt → Array Value → Prop) (Post : Pt → Array Value → Option Value → Pt → Prop) (PostX : Pt → Array Value → Addr → Pt → Prop) : Prop :=
  ∀ (m : MethodId) (meth : Method) (c : Code) (A : Pt) (g : JFrame) (ig : Instr) (mk : MethodId) (a : Array Value),
    Stand p l e R s m sargs below meth c A.U A.locs A.cells A.slots → g.method = m → g.locals.size = c.maxLocals → decode c.code g.pc = .ok (ig, len) →
    2 * g.monitorRoom + (g.stack.map fun v => v.category).sum ≤ W9 → A.U.methodNamed? y = some mk → Pre A a →
    (∃ (v : Option Value) (B : Pt), Stand p l e R s m sargs below meth c B.U B.locs B.cells B.slots ∧ Post A a v B ∧
      Steps p.tables e below (doInvoke e (A.U.setTop g) [] mk a).1 (B.U.setTop { g with pc := g.pc + len, stack := v.toList ++ g.stack })) ∨
    (∃ (q : Addr) (B : Pt), Stand p l e R s m sargs below meth c B.U B.locs B.cells B.slots ∧ PostX A a q B ∧
      Steps p.tables e below (doInvoke e (A.U.setTop g) [] mk a).1 ((B.U.setTop g).pushFrame (.throwing q)))
section Payer
variable {l : Launch} {R : Room} {p : Program} {e : Env} {below : List Frame} {s : State} {sargs : Array Value} {y : MethodName} {len W9 : Nat}
theorem vx_back {ws : List Cond} {rm : Room} {Pc : Array Value → State → Prop} {Qc : Array Value → State → Outcome → State → Prop} {XC : String → State → State → Prop} {mc ms : Nat} {free : Addr → Prop} {bytes : ByteArray} {maxL : Nat} {ret : Option FieldType}
    (hM : vx_Met l y ws rm Pc Qc XC mc ms free) (hblind : FrameBlind Pc) (hrc : rm.cells = mc) (hrs : rm.slots = ms)
    (hframes : rm.frames + 1 ≤ R.frames) (hlocals : W9 + (maxL + 11) + rm.locals ≤ R.locals)
    (hws : ∀ w ∈ ws, ∀ a' U, s.WarmedH U.vm → w.before a' U = true) (hcode : Cond.code y bytes maxL ret ∈ ws) (hinit : ∀ a' U, s.WarmedH U.vm → (Cond.initialized y.cls).before a' U = true) :
    vx_Back l R p e below s sargs y len W9 (PreOf R mc ms Pc) (PostOf Qc mc ms free) (vx_Post XC mc ms free) := by
  intro m meth c A g ig mk a X hg hsize hdg hW hn hp
  have h1 : (headSpec ws rm).pre.before a A.U = true := atoms_intro fun w hw => hws w hw _ _ X.warmed
  have h2 : (Cond.code y bytes maxL ret).before a A.U = true := hws _ hcode _ _ X.warmed
  have h3 : (Cond.initialized y.cls).before a A.U = true := hinit _ _ X.warmed
  have h4 : A.cells + (headSpec ws rm).room.cells ≤ R.cells := by rw [show (headSpec ws rm).room.cells = mc from hrc]; exact hp.1
  have h5 : A.slots + (headSpec ws rm).room.slots ≤ R.slots := by rw [show (headSpec ws rm).room.slots = ms from hrs]; exact hp.2.1
  have hPc : Pc a (A.U.calling g mk a) := hblind _ _ _ _ hp.2.2
  obtain ⟨U, Ls, c0, s0⟩ := A
  dsimp only [Pt.U, Pt.locs, Pt.cells, Pt.slots] at h1 h2 h3 h4 h5 X hn hPc ⊢
  obtain ⟨methY, cY, hmY, hcY, -, hlY, -, -, -, -⟩ := Cond.code_spec hn h2
  obtain ⟨kY, hkY, -⟩ := className_of_methodNamed hn
  have hinitY : kY.init = .initialized := Cond.initialized_spec (findClass_of_methodNamed hn) hkY h3
  have h : At U g.method c below := by rw [hg]; exact X.here
  have hlocals9 : W9 + (maxL + 11) + (headSpec ws rm).room.locals ≤ R.locals := hlocals
  have happ : (headSpec ws rm).appliesLoose y e.platform (U.calling g mk a) = true :=
    Spec.appliesLoose_calling (g := g) h hdg hn hkY hinitY
      (X.room_calling (g := g) (R' := (headSpec ws rm).room) hsize hmY hcY hframes (by rw [hlY]; omega) h4 h5) h1
  obtain ⟨mid, hmid⟩ := h.above
  have hfr : (U.setTop g).frames = (.java g :: mid) ++ below := by rw [State.frames_setTop' g h.top, hmid]; rfl
  obtain ⟨o, s₂, hsteps, -, hend, hq⟩ := Steps.callFree hM p X.admits X.cas X.clock (acts := []) hfr happ hPc trivial
  have hq' : vx_Q Qc XC mc ms free a (U.calling g mk a) o s₂ := hq
  rw [State.frames_setTop' g h.top] at hend
  obtain ⟨g₀, hg0⟩ := Option.isSome_iff_exists.mp h.top
  obtain ⟨r, hr⟩ := State.topJava?_eq_some.mp hg0
  have hr' : (({ U with heap := s₂.heap, slotsUsed := s₂.slotsUsed } : State).setVm s₂.vm).frames = .java g₀ :: r := hr
  rcases hq' with ⟨hqc, L, hfe, hL⟩ | ⟨q, rfl, E, ce, L, hx, hce, hcv, hcl, hW₂, hsm, hL⟩
  · obtain ⟨⟨v, rfl⟩, hW₂, e2, q2, q3, q4, q5, q6⟩ := id hfe
    have e3 : s₂ = ({ (U.calling g mk a).setFrames s₂.frames with heap := s₂.heap, slotsUsed := s₂.slotsUsed } : State).setVm s₂.vm := by
      have : s₂ = ({ s₂ with vm := (U.calling g mk a).vm } : State).setVm s₂.vm := rfl
      rw [e2] at this
      exact this
    obtain ⟨c₂, i₂, len₂, hc₂, hd₂, hf₂⟩ := hend
    have hW' : U.WarmedH s₂.vm := hW₂
    have hcc : c₂ = c := by
      have h1 : s₂.code? g.method = U.code? g.method := by
        rw [State.code?_eq, State.code?_eq, hW'.alike.method?]
      exact Option.some.inj (hc₂.symm.trans (h1.trans h.code))
    subst hcc
    have hlen : len₂ = len := by rw [hdg] at hd₂; cases hd₂; rfl
    subst hlen
    have hs₂ : s₂ = (({ U with heap := s₂.heap, slotsUsed := s₂.slotsUsed } : State).setVm s₂.vm).setTop { g with pc := g.pc + len₂, stack := v.toList ++ g.stack } := by
      refine e3.trans ?_
      rw [hf₂, State.calling_eq h.top, State.setFrames_setFrames, State.setTop_of_frames _ hr', hr]
      rfl
    have hsame : U.sameButNew ({ U with heap := s₂.heap, slotsUsed := s₂.slotsUsed } : State) L mc ms := by
      refine ⟨?_, q2, q3, q4, q5, q6⟩
      obtain ⟨t, ht, -⟩ := State.frames_cons hr
      show ({ U with heap := s₂.heap, slotsUsed := s₂.slotsUsed } : State) = { U.setFrames U.frames with heap := s₂.heap, slotsUsed := s₂.slotsUsed }
      rw [State.setFrames_self ht]
    subst hg
    refine Or.inl ⟨v, ⟨(({ U with heap := s₂.heap, slotsUsed := s₂.slotsUsed } : State).setVm s₂.vm), Ls ++ L, c0 + mc, s0 + ms⟩,
      ⟨X.admits, X.cas, X.clock, X.frames, X.room, X.hears, X.method, X.code, (X.here.setHeapUsed s₂.heap s₂.slotsUsed).setVm hW'.alike, X.tail, State.WarmedH.trans X.warmed hW', X.limits, X.bytes, X.same.trans (hsame.setVm s.vm)⟩,
      ⟨g, mk, s₂, L, rfl, rfl, hqc, rfl, hL, rfl, rfl⟩, ?_⟩
    show Steps p.tables e below _ ((({ U with heap := s₂.heap, slotsUsed := s₂.slotsUsed } : State).setVm s₂.vm).setTop { g with pc := g.pc + len₂, stack := v.toList ++ g.stack })
    rw [← hs₂]
    exact hsteps
  · obtain ⟨e2, q2, q3, q4, q5, q6⟩ := id hsm
    have e3 : s₂ = ({ (U.calling g mk a).setFrames s₂.frames with heap := s₂.heap, slotsUsed := s₂.slotsUsed } : State).setVm s₂.vm := by
      have : s₂ = ({ s₂ with vm := (U.calling g mk a).vm } : State).setVm s₂.vm := rfl
      rw [e2] at this
      exact this
    have hf₂ : s₂.frames = .throwing q :: .java g :: U.frames.tail := hend
    have hW' : U.WarmedH s₂.vm := hW₂
    have hs₂ : s₂ = ((({ U with heap := s₂.heap, slotsUsed := s₂.slotsUsed } : State).setVm s₂.vm).setTop g).pushFrame (.throwing q) := by
      refine e3.trans ?_
      rw [hf₂, State.calling_eq h.top, State.setFrames_setFrames, State.pushFrame, State.frames_setTop _ hr', State.setTop_of_frames _ hr', State.setFrames_setFrames, hr]
      rfl
    have hsame : U.sameButNew ({ U with heap := s₂.heap, slotsUsed := s₂.slotsUsed } : State) L mc ms := by
      refine ⟨?_, q2, q3, q4, q5, q6⟩
      obtain ⟨t, ht, -⟩ := State.frames_cons hr
      show ({ U with heap := s₂.heap, slotsUsed := s₂.slotsUsed } : State) = { U.setFrames U.frames with heap := s₂.heap, slotsUsed := s₂.slotsUsed }
      rw [State.setFrames_self ht]
    subst hg
    refine Or.inr ⟨q, ⟨(({ U with heap := s₂.heap, slotsUsed := s₂.slotsUsed } : State).setVm s₂.vm), Ls ++ L, c0 + mc, s0 + ms⟩,
      ⟨X.admits, X.cas, X.clock, X.frames, X.room, X.hears, X.method, X.code, (X.here.setHeapUsed s₂.heap s₂.slotsUsed).setVm hW'.alike, X.tail, State.WarmedH.trans X.warmed hW', X.limits, X.bytes, X.same.trans (hsame.setVm s.vm)⟩,
      ⟨g, mk, s₂, L, E, ce, rfl, rfl, hx, hce, hcv, hcl, rfl, hL, rfl, rfl⟩, ?_⟩
    show Steps p.tables e below _ (((({ U with heap := s₂.heap, slotsUsed := s₂.slotsUsed } : State).setVm s₂.vm).setTop g).pushFrame (.throwing q))
    rw [← hs₂]
    exact hsteps
end Payer
section Calls
variable {p : Program} {l : Launch} {e : Env} {R : Room} {s : State} {m : MethodId} {args : Array Value} {below : List Frame} {meth : Method} {c : Code} {T : State} {locs : List Loc} {cells slots : Nat}
theorem vx_callV (X : Stand p l e R s m args below meth c T locs cells slots) (hexec : p.tables.exec = Jvm.exec) {own C : String} {index : Nat} {y : MethodName} {bytes : ByteArray} {maxL : Nat} {ret : Option FieldType}
    (hown : s.vm.findClass own = some m.cls) (hlink : (Cond.methodLink own index y).before args s = true) (hinst : (Cond.instanceMethod y).before args s = true) (hsel : (Cond.selects C y y).before args s = true)
    (hcode : (Cond.code y bytes maxL ret).before args s = true) (hy : y.cls ≠ "java/lang/invoke/MethodHandle" ∧ y.cls ≠ "java/lang/invoke/VarHandle")
    {W9 : Nat} {Pre : Pt → Array Value → Prop} {Post : Pt → Array Value → Option Value → Pt → Prop} {PostX : Pt → Array Value → Addr → Pt → Prop} (hK : vx_Back l R p e below s args y 3 W9 Pre Post PostX)
    {b : Addr} {cellB : Cell} (hcell : T.heap[b]? = some cellB) (hobj : cellB.vm.isStatics = false) (hcls : s.vm.findClass C = some cellB.cls)
    {g : JFrame} (hg : g.method = m) (hsize : g.locals.size = c.maxLocals) {argsL rest : List Value} (hlen : ∀ sig, parseMethodDescriptor y.desc = some sig → argsL.length = sig.parameters.length)
    (hstack : g.stack = argsL.reverse ++ .ref b :: rest) (hW : 2 * g.monitorRoom + (rest.map fun v => v.category).sum ≤ W9) (hdg : decode c.code g.pc = .ok (.invokevirtual index, 3))
    (hpre : ∀ vm₁, s.WarmedH vm₁ → Pre ⟨T.setVm vm₁, locs, cells, slots⟩ (Value.ref b :: argsL).toArray) :
    (∃ (v : Option Value) (vm₁ : Vm) (B : Pt), s.WarmedH vm₁ ∧ Stand p l e R s m args below meth c B.U B.locs B.cells B.slots ∧ Post ⟨T.setVm vm₁, locs, cells, slots⟩ (Value.ref b :: argsL).toArray v B ∧
      ∀ target, Steps p.tables e below (B.U.setTop { g with pc := g.pc + 3, stack := v.toList ++ rest }) target → Steps p.tables e below (T.setTop g) target) ∨
    (∃ (q : Addr) (vm₁ : Vm) (B : Pt), s.WarmedH vm₁ ∧ Stand p l e R s m args below meth c B.U B.locs B.cells B.slots ∧ PostX ⟨T.setVm vm₁, locs, cells, slots⟩ (Value.ref b :: argsL).toArray q B ∧
      Steps p.tables e below (T.setTop g) ((B.U.setTop { g with stack := rest }).pushFrame (.throwing q))) := by
  obtain ⟨mk, methM, hnamed, hmethM, hstM, habM⟩ := Cond.instanceMethod_spec hinst
  obtain ⟨methM', cM, hmethM', -, -, -, -, -, -, hsigM⟩ := Cond.code_spec hnamed hcode
  cases hmethM.symm.trans hmethM'
  obtain ⟨c2, r2, m2, q1, q2, q3, q4, kP, hkP, hkPi⟩ := Cond.selects_spec hsel
  cases hcls.symm.trans q1
  cases (State.methodFound?_of_named hnamed hy).symm.trans q2
  cases hnamed.symm.trans q3
  have hselP : selectMethod e.platform s.vm cellB.cls mk = .method mk := by rw [Launch.admits_selectMethod X.admits]; exact q4
  obtain ⟨vm₁, X₁, hstep₁⟩ := X.invokevirtual hexec hown hlink hnamed hmethM hstM hkP hkPi hy (a := b) (cell := cellB) hcell
    (fun z h => by rw [h] at hobj; cases hobj) hselP hmethM habM hkP hkPi (g := g) hg (argsL := argsL) (rest := rest) (hlen _ hsigM) hstack hdg
  rcases hK m meth c ⟨T.setVm vm₁, locs, cells, slots⟩ { g with stack := rest } (.invokevirtual index) mk (Value.ref b :: argsL).toArray X₁ hg hsize hdg hW (X₁.named hnamed) (hpre vm₁ X₁.warmed) with ⟨v, B, X', hpost, hsteps⟩ | ⟨q, B, X', hpost, hsteps⟩
  · exact Or.inl ⟨v, vm₁, B, X₁.warmed, X', hpost, fun target h => hstep₁ _ fun acts => by rw [doInvoke_state]; exact hsteps.trans h⟩
  · exact Or.inr ⟨q, vm₁, B, X₁.warmed, X', hpost, hstep₁ _ fun acts => by rw [doInvoke_state]; exact hsteps⟩
theorem vx_callS (X : Stand p l e R s m args below meth c T locs cells slots) (hexec : p.tables.exec = Jvm.exec) {own : String} {index : Nat} {y : MethodName} {bytes : ByteArray} {maxL : Nat} {ret : Option FieldType}
    (hown : s.vm.findClass own = some m.cls) (hlink : (Cond.methodLink own index y).before args s = true) (hstat : (Cond.static y).before args s = true) (hinit : (Cond.initialized y.cls).before args s = true)
    (hcode : (Cond.code y bytes maxL ret).before args s = true) (hy : y.cls ≠ "java/lang/invoke/MethodHandle" ∧ y.cls ≠ "java/lang/invoke/VarHandle")
    {W9 : Nat} {Pre : Pt → Array Value → Prop} {Post : Pt → Array Value → Option Value → Pt → Prop} {PostX : Pt → Array Value → Addr → Pt → Prop} (hK : vx_Back l R p e below s args y 3 W9 Pre Post PostX)
    {g : JFrame} (hg : g.method = m) (hsize : g.locals.size = c.maxLocals) {argsL rest : List Value} (hlen : ∀ sig, parseMethodDescriptor y.desc = some sig → argsL.length = sig.parameters.length)
    (hstack : g.stack = argsL.reverse ++ rest) (hW : 2 * g.monitorRoom + (rest.map fun v => v.category).sum ≤ W9) (hdg : decode c.code g.pc = .ok (.invokestatic index, 3))
    (hpre : ∀ vm₁, s.WarmedH vm₁ → Pre ⟨T.setVm vm₁, locs, cells, slots⟩ argsL.toArray) :
    (∃ (v : Option Value) (vm₁ : Vm) (B : Pt), s.WarmedH vm₁ ∧ Stand p l e R s m args below meth c B.U B.locs B.cells B.slots ∧ Post ⟨T.setVm vm₁, locs, cells, slots⟩ argsL.toArray v B ∧
      ∀ target, Steps p.tables e below (B.U.setTop { g with pc := g.pc + 3, stack := v.toList ++ rest }) target → Steps p.tables e below (T.setTop g) target) ∨
    (∃ (q : Addr) (vm₁ : Vm) (B : Pt), s.WarmedH vm₁ ∧ Stand p l e R s m args below meth c B.U B.locs B.cells B.slots ∧ PostX ⟨T.setVm vm₁, locs, cells, slots⟩ argsL.toArray q B ∧
      Steps p.tables e below (T.setTop g) ((B.U.setTop { g with stack := rest }).pushFrame (.throwing q))) := by
  obtain ⟨mk, hnamed⟩ := Cond.code_named hcode
  obtain ⟨methM, cM, hmethM, -, -, -, -, -, -, hsigM⟩ := Cond.code_spec hnamed hcode
  have hstatic : methM.isStatic = true := Cond.static_spec hnamed hmethM hstat
  obtain ⟨kP, hkP, -⟩ := className_of_methodNamed hnamed
  have hinitP : kP.init = .initialized := Cond.initialized_spec (findClass_of_methodNamed hnamed) hkP hinit
  obtain ⟨vm₁, X₁, hstep₁⟩ := X.invokestatic hexec hown hlink hnamed hmethM hstatic hkP hinitP hy (g := g) hg (argsL := argsL) (rest := rest) (hlen _ hsigM) hstack hdg
  rcases hK m meth c ⟨T.setVm vm₁, locs, cells, slots⟩ { g with stack := rest } (.invokestatic index) mk argsL.toArray X₁ hg hsize hdg hW (X₁.named hnamed) (hpre vm₁ X₁.warmed) with ⟨v, B, X', hpost, hsteps⟩ | ⟨q, B, X', hpost, hsteps⟩
  · exact Or.inl ⟨v, vm₁, B, X₁.warmed, X', hpost, fun target h => hstep₁ _ fun acts => by rw [doInvoke_state]; exact hsteps.trans h⟩
  · exact Or.inr ⟨q, vm₁, B, X₁.warmed, X', hpost, hstep₁ _ fun acts => by rw [doInvoke_state]; exact hsteps⟩
end Calls
theorem vx_cls {s : State} {T : State} {vm₁ : Vm} {E : String} {k : ClassId} (hW : s.WarmedH vm₁) (h : (T.setVm vm₁).vm.findClass E = some k) : s.vm.findClass E = some k := by
  have h1 : vm₁.findClass E = some k := h
  rw [hW.alike.findClass] at h1
  exact h1
/-- the method's frame g, with q thrown over it -/
def vx_W (p : Program) (l : Launch) (e : Env) (R : Room) (s : State) (m : MethodId) (args : Array Value) (below : List Frame) (meth : Method) (c : Code) (H : Heap) (locs : List Loc) (cells slots : Nat) (Q : State → Prop) (g : JFrame) (q : Addr) : Prop :=
  ∀ T : State, T.heap = H → Stand p l e R s m args below meth c T locs cells slots → ∃ t, Steps p.tables e below ((T.setTop g).pushFrame (.throwing q)) t ∧ Q t
def vx_Run (p : Program) (l : Launch) (e : Env) (R : Room) (s : State) (m : MethodId) (args : Array Value) (below : List Frame) (meth : Method) (c : Code) (H : Heap) (locs : List Loc) (cells slots mc ms : Nat) (g : JFrame) (rest : List Value) (Qa : State → Outcome → State → Prop) (XC : String → State → State → Prop) (free : Addr → Prop) : Prop :=
  ∀ T : State, T.heap = H → Stand p l e R s m args below meth c T locs cells slots →
    (∃ (v : Option Value) (st₀ t T' : State) (L : List Loc), st₀.heap = H ∧ Stand p l e R s m args below meth c T' (locs ++ L) (cells + mc) (slots + ms) ∧ (∀ q ∈ L, free q.base) ∧ T'.heap = t.heap ∧ T'.vm = t.vm ∧ Qa st₀ (.returned v) t ∧
      Goes p e below T g T' { g with pc := g.pc + 3, stack := v.toList ++ rest }) ∨
    (∃ (q : Addr) (st₀ t T' : State) (L : List Loc) (E : String) (ce : Cell), st₀.heap = H ∧ Stand p l e R s m args below meth c T' (locs ++ L) (cells + mc) (slots + ms) ∧ (∀ z ∈ L, free z.base) ∧ T'.heap = t.heap ∧ T'.vm = t.vm ∧ XC E st₀ t ∧ t.heap[q]? = some ce ∧ ce.vm = .none ∧ s.vm.findClass E = some ce.cls ∧
      Steps p.tables e below (T.setTop g) ((T'.setTop { g with stack := rest }).pushFrame (.throwing q)))
def vx_X {S : Type} (px : S → Prop) (B : String → S → State → Prop) (A : Nat → Prop) : String → State → State → Prop := fun E st t => ∃ u : S, px u ∧ B E u t ∧ va_F A st t
section Runs
variable {p : Program} {l : Launch} {e : Env} {R : Room} {s : State} {m : MethodId} {args : Array Value} {below : List Frame} {meth : Method} {c : Code} {H : Heap} {locs : List Loc} {cells slots : Nat}
variable {y : MethodName} {bytes cc : ByteArray} {maxL nL mc ms n index : Nat} {ret : Option FieldType} {ws : List Cond} {rm : Room} {Pc : Array Value → State → Prop} {Qc : Array Value → State → Outcome → State → Prop} {XC : String → State → State → Prop} {free : Addr → Prop} {Ts : List Cond} {own C : String} {b : Addr} {As rest : List Value} {g : JFrame}
theorem vx_callBack (cb : CallB R s args own index y bytes maxL ret ws rm mc ms n) (hM : vx_Met l y ws rm Pc Qc XC mc ms free) (hbl : FrameBlind Pc) : vx_Back l R p e below s args y 3 8 (PreOf R mc ms Pc) (PostOf Qc mc ms free) (vx_Post XC mc ms free) := by
  obtain ⟨hrc, hrs, hfr, hlo, hws, hcw, -, hini, -⟩ := cb
  exact vx_back (bytes := bytes) (maxL := maxL) (ret := ret) hM hbl hrc hrs hfr hlo hws hcw (fun a' U hW => word_at hW (Or.inl (by first | rfl | simp [Cond.onTables, Cond.keeps, Cond.steady])) hini)
theorem vx_runV (S : CallFix p m c cc nL s args Ts own) (hM : vx_Met l y ws rm Pc Qc XC mc ms free) (cw : CallW R s args own C index y bytes maxL ret ws rm mc ms n) (hp : PreV s H C b Pc As)
    (hg : g.method = m) (hn : As.length = n) (hsize : g.locals.size = nL) (hstack : g.stack = As.reverse ++ .ref b :: rest) (hW : 2 * g.monitorRoom + (rest.map fun v => v.category).sum ≤ 8) (hdg : decode cc g.pc = .ok (.invokevirtual index, 3)) (hf : cells + mc ≤ R.cells ∧ slots + ms ≤ R.slots) :
    vx_Run p l e R s m args below meth c H locs cells slots mc ms g rest (Qc (Value.ref b :: As).toArray) XC free := by
  have hK : vx_Back l R p e below s args y 3 8 (PreOf R mc ms Pc) (PostOf Qc mc ms free) (vx_Post XC mc ms free) := vx_callBack cw.1 hM hp.1
  obtain ⟨⟨-, -, -, -, -, -, hcode, -, hy, hlen, hl⟩, hin, hse⟩ := cw
  obtain ⟨hx, hb, hml, ho, -⟩ := S
  obtain ⟨-, ⟨cellB, hcB, hoB, hclB⟩, hPc⟩ := hp
  intro T hT X
  rcases vx_callV X hx (C := C) (bytes := bytes) (maxL := maxL) (ret := ret) ho hl hin hse hcode hy hK (by rw [hT]; exact hcB) hoB hclB hg (hsize.trans hml.symm) (argsL := As) (rest := rest) (fun sig h => hn.trans (hlen sig h)) hstack hW (by rw [hb]; exact hdg)
    (fun vm₁ hW₁ => ⟨hf.1, hf.2, hPc (T.setVm vm₁) hT hW₁⟩) with ⟨v, vm₁, ⟨U', l2, c2, s2⟩, hW₁, X', ⟨g', mk, t, L, e1, e2, hq, h1, hL, h2, h3⟩, st⟩ | ⟨q, vm₁, ⟨U', l2, c2, s2⟩, hW₁, X', ⟨g', mk, t, L, E, ce, e1, e2, hq, hce, hcv, hcl, h1, hL, h2, h3⟩, st⟩
  · dsimp only [Pt.U, Pt.locs, Pt.cells, Pt.slots] at X' e1 e2 h1 h2 h3 st
    subst h1; subst h2; subst h3
    exact Or.inl ⟨v, (T.setVm vm₁).calling g' mk (Value.ref b :: As).toArray, t, U', L, hT, X', hL, e1, e2, hq, st⟩
  · dsimp only [Pt.U, Pt.locs, Pt.cells, Pt.slots] at X' e1 e2 h1 h2 h3 st hcl
    subst h1; subst h2; subst h3
    exact Or.inr ⟨q, (T.setVm vm₁).calling g' mk (Value.ref b :: As).toArray, t, U', L, E, ce, hT, X', hL, e1, e2, hq, hce, hcv, vx_cls hW₁ hcl, st⟩
theorem vx_runS (S : CallFix p m c cc nL s args Ts own) (hM : vx_Met l y ws rm Pc Qc XC mc ms free) (cw : CallB R s args own index y bytes maxL ret ws rm mc ms n ∧ (Cond.static y).before args s = true) (hp : PreS s H Pc As)
    (hg : g.method = m) (hn : As.length = n) (hsize : g.locals.size = nL) (hstack : g.stack = As.reverse ++ rest) (hW : 2 * g.monitorRoom + (rest.map fun v => v.category).sum ≤ 8) (hdg : decode cc g.pc = .ok (.invokestatic index, 3)) (hf : cells + mc ≤ R.cells ∧ slots + ms ≤ R.slots) :
    vx_Run p l e R s m args below meth c H locs cells slots mc ms g rest (Qc As.toArray) XC free := by
  have hK : vx_Back l R p e below s args y 3 8 (PreOf R mc ms Pc) (PostOf Qc mc ms free) (vx_Post XC mc ms free) := vx_callBack cw.1 hM hp.1
  obtain ⟨⟨-, -, -, -, -, -, hcode, hini, hy, hlen, hl⟩, hstt⟩ := cw
  obtain ⟨hx, hb, hml, ho, -⟩ := S
  intro T hT X
  rcases vx_callS X hx (bytes := bytes) (maxL := maxL) (ret := ret) ho hl hstt hini hcode hy hK hg (hsize.trans hml.symm) (argsL := As) (rest := rest) (fun sig h => hn.trans (hlen sig h)) hstack hW (by rw [hb]; exact hdg)
    (fun vm₁ hW₁ => ⟨hf.1, hf.2, hp.2 (T.setVm vm₁) hT hW₁⟩) with ⟨v, vm₁, ⟨U', l2, c2, s2⟩, hW₁, X', ⟨g', mk, t, L, e1, e2, hq, h1, hL, h2, h3⟩, st⟩ | ⟨q, vm₁, ⟨U', l2, c2, s2⟩, hW₁, X', ⟨g', mk, t, L, E, ce, e1, e2, hq, hce, hcv, hcl, h1, hL, h2, h3⟩, st⟩
  · dsimp only [Pt.U, Pt.locs, Pt.cells, Pt.slots] at X' e1 e2 h1 h2 h3 st
    subst h1; subst h2; subst h3
    exact Or.inl ⟨v, (T.setVm vm₁).calling g' mk As.toArray, t, U', L, hT, X', hL, e1, e2, hq, st⟩
  · dsimp only [Pt.U, Pt.locs, Pt.cells, Pt.slots] at X' e1 e2 h1 h2 h3 st hcl
    subst h1; subst h2; subst h3
    exact Or.inr ⟨q, (T.setVm vm₁).calling g' mk As.toArray, t, U', L, E, ce, hT, X', hL, e1, e2, hq, hce, hcv, vx_cls hW₁ hcl, st⟩
end Runs
section Rows
variable {p : Program} {l : Launch} {e : Env} {R : Room} {s : State} {m : MethodId} {args : Array Value} {below : List Frame} {meth : Method} {c : Code} {H : Heap} {locs : List Loc} {cells slots : Nat} {Q : State → Prop}
variable {mc ms : Nat} {free : Addr → Prop} {A0 A1 : Nat → Prop} {H0 : Heap} {a : Array Value} {pc : Nat} {ls : Array Slot} {st0 rest : List Value}
theorem vx_keep {st₀ t T' : State} {L : List Loc} (h0 : st₀.heap = H) (e1 : T'.heap = t.heap) (hS : va_S A0 H0 H locs) (hA : ∀ q, q < H.size → A1 q → A0 q) (hf : ∀ q, free q → A0 q) (hL : ∀ q ∈ L, free q.base) (hF : va_F A1 st₀ t) :
    H.size ≤ T'.heap.size ∧ (∀ q : Nat, q < H.size → ¬ A1 q → T'.heap[q]? = H[q]?) ∧ va_S A0 H0 T'.heap (locs ++ L) := by
  obtain ⟨hz, hk⟩ := hF
  rw [h0] at hz hk
  exact ⟨by rw [e1]; exact hz, fun q h1 h2 => by rw [e1]; exact hk q h1 h2,
    ⟨Nat.le_trans hS.1 (by rw [e1]; exact hz), fun q h1 h2 => by rw [e1, hk q (Nat.lt_of_lt_of_le h1 hS.1) (fun z => h2 (hA q (Nat.lt_of_lt_of_le h1 hS.1) z))]; exact hS.2.1 q h1 h2, fun q hq => by
      rcases List.mem_append.mp hq with h | h
      · exact hS.2.2 q h
      · exact hf _ (hL q h)⟩⟩
theorem vx_calli {S SX : Type} {post : Int32 → S → Prop} {px : SX → Prop} {B : S → State → Prop} {BX : String → SX → State → Prop} {AX : Nat → Prop} (hr : vx_Run p l e R s m args below meth c H locs cells slots mc ms (F0 m pc ls st0) rest (va_Qi post B A1 a) (vx_X px BX AX) free) (hS : va_S A0 H0 H locs) (hA : ∀ q, q < H.size → A1 q → A0 q) (hf : ∀ q, free q → A0 q) (hAX : ∀ q, q < H.size → AX q → A0 q)
    (kx : ∀ (E : String) (ce : Cell) (q9 : Addr) (u : SX) (t : State) (H1 : Heap) (locs1 : List Loc), t.heap = H1 → s.vm.Alike t.vm → px u → BX E u t → H.size ≤ H1.size → (∀ q : Nat, q < H.size → ¬ AX q → H1[q]? = H[q]?) → va_S A0 H0 H1 locs1 → H1[q9]? = some ce → ce.vm = .none → s.vm.findClass E = some ce.cls → vx_W p l e R s m args below meth c H1 locs1 (cells + mc) (slots + ms) Q (F0 m pc ls rest) q9)
    (kk : ∀ (r : Int32) (u : S) (t : State) (H1 : Heap) (locs1 : List Loc), t.heap = H1 → s.vm.Alike t.vm → post r u → B u t → H.size ≤ H1.size → (∀ q : Nat, q < H.size → ¬ A1 q → H1[q]? = H[q]?) → va_S A0 H0 H1 locs1 → W p l e R s m args below meth c H1 locs1 (cells + mc) (slots + ms) Q (F0 m (pc + 3) ls (.int r :: rest))) : W p l e R s m args below meth c H locs cells slots Q (F0 m pc ls st0) := by
  intro T hT X
  rcases hr T hT X with ⟨v, st₀, t, T', L, h0, X', hL, e1, e2, ⟨⟨r, u, hv, hp, hb⟩, hF⟩, st⟩ | ⟨q, st₀, t, T', L, E, ce, h0, X', hL, e1, e2, ⟨u, hp, hb, hF⟩, hce, hcv, hcl, st⟩
  · cases hv
    obtain ⟨k1, k2, k3⟩ := vx_keep h0 e1 hS hA hf hL hF
    obtain ⟨t2, a1, b1⟩ := kk r u t T'.heap (locs ++ L) e1.symm (by rw [← e2]; exact X'.warmed.alike) hp hb k1 k2 k3 T' rfl X'
    exact ⟨t2, st t2 a1, b1⟩
  · obtain ⟨k1, k2, k3⟩ := vx_keep h0 e1 hS hAX hf hL hF
    obtain ⟨t2, a1, b1⟩ := kx E ce q u t T'.heap (locs ++ L) e1.symm (by rw [← e2]; exact X'.warmed.alike) hp hb k1 k2 k3 (by rw [e1]; exact hce) hcv hcl T' rfl X'
    exact ⟨t2, st.trans a1, b1⟩
theorem vx_calll {S SX : Type} {post : Int64 → S → Prop} {px : SX → Prop} {B : S → State → Prop} {BX : String → SX → State → Prop} {AX : Nat → Prop} (hr : vx_Run p l e R s m args below meth c H locs cells slots mc ms (F0 m pc ls st0) rest (va_Ql post B A1 a) (vx_X px BX AX) free) (hS : va_S A0 H0 H locs) (hA : ∀ q, q < H.size → A1 q → A0 q) (hf : ∀ q, free q → A0 q) (hAX : ∀ q, q < H.size → AX q → A0 q)
    (kx : ∀ (E : String) (ce : Cell) (q9 : Addr) (u : SX) (t : State) (H1 : Heap) (locs1 : List Loc), t.heap = H1 → s.vm.Alike t.vm → px u → BX E u t → H.size ≤ H1.size → (∀ q : Nat, q < H.size → ¬ AX q → H1[q]? = H[q]?) → va_S A0 H0 H1 locs1 → H1[q9]? = some ce → ce.vm = .none → s.vm.findClass E = some ce.cls → vx_W p l e R s m args below meth c H1 locs1 (cells + mc) (slots + ms) Q (F0 m pc ls rest) q9)
    (kk : ∀ (r : Int64) (u : S) (t : State) (H1 : Heap) (locs1 : List Loc), t.heap = H1 → s.vm.Alike t.vm → post r u → B u t → H.size ≤ H1.size → (∀ q : Nat, q < H.size → ¬ A1 q → H1[q]? = H[q]?) → va_S A0 H0 H1 locs1 → W p l e R s m args below meth c H1 locs1 (cells + mc) (slots + ms) Q (F0 m (pc + 3) ls (.long r :: rest))) : W p l e R s m args below meth c H locs cells slots Q (F0 m pc ls st0) := by
  intro T hT X
  rcases hr T hT X with ⟨v, st₀, t, T', L, h0, X', hL, e1, e2, ⟨⟨r, u, hv, hp, hb⟩, hF⟩, st⟩ | ⟨q, st₀, t, T', L, E, ce, h0, X', hL, e1, e2, ⟨u, hp, hb, hF⟩, hce, hcv, hcl, st⟩
  · cases hv
    obtain ⟨k1, k2, k3⟩ := vx_keep h0 e1 hS hA hf hL hF
    obtain ⟨t2, a1, b1⟩ := kk r u t T'.heap (locs ++ L) e1.symm (by rw [← e2]; exact X'.warmed.alike) hp hb k1 k2 k3 T' rfl X'
    exact ⟨t2, st t2 a1, b1⟩
  · obtain ⟨k1, k2, k3⟩ := vx_keep h0 e1 hS hAX hf hL hF
    obtain ⟨t2, a1, b1⟩ := kx E ce q u t T'.heap (locs ++ L) e1.symm (by rw [← e2]; exact X'.warmed.alike) hp hb k1 k2 k3 (by rw [e1]; exact hce) hcv hcl T' rfl X'
    exact ⟨t2, st.trans a1, b1⟩
theorem vx_callf {S SX : Type} {post : UInt32 → S → Prop} {px : SX → Prop} {B : S → State → Prop} {BX : String → SX → State → Prop} {AX : Nat → Prop} (hr : vx_Run p l e R s m args below meth c H locs cells slots mc ms (F0 m pc ls st0) rest (va_Qf post B A1 a) (vx_X px BX AX) free) (hS : va_S A0 H0 H locs) (hA : ∀ q, q < H.size → A1 q → A0 q) (hf : ∀ q, free q → A0 q) (hAX : ∀ q, q < H.size → AX q → A0 q)
    (kx : ∀ (E : String) (ce : Cell) (q9 : Addr) (u : SX) (t : State) (H1 : Heap) (locs1 : List Loc), t.heap = H1 → s.vm.Alike t.vm → px u → BX E u t → H.size ≤ H1.size → (∀ q : Nat, q < H.size → ¬ AX q → H1[q]? = H[q]?) → va_S A0 H0 H1 locs1 → H1[q9]? = some ce → ce.vm = .none → s.vm.findClass E = some ce.cls → vx_W p l e R s m args below meth c H1 locs1 (cells + mc) (slots + ms) Q (F0 m pc ls rest) q9)
    (kk : ∀ (r : UInt32) (u : S) (t : State) (H1 : Heap) (locs1 : List Loc), t.heap = H1 → s.vm.Alike t.vm → post r u → B u t → H.size ≤ H1.size → (∀ q : Nat, q < H.size → ¬ A1 q → H1[q]? = H[q]?) → va_S A0 H0 H1 locs1 → W p l e R s m args below meth c H1 locs1 (cells + mc) (slots + ms) Q (F0 m (pc + 3) ls (.float r :: rest))) : W p l e R s m args below meth c H locs cells slots Q (F0 m pc ls st0) := by
  intro T hT X
  rcases hr T hT X with ⟨v, st₀, t, T', L, h0, X', hL, e1, e2, ⟨⟨r, u, hv, hp, hb⟩, hF⟩, st⟩ | ⟨q, st₀, t, T', L, E, ce, h0, X', hL, e1, e2, ⟨u, hp, hb, hF⟩, hce, hcv, hcl, st⟩
  · cases hv
    obtain ⟨k1, k2, k3⟩ := vx_keep h0 e1 hS hA hf hL hF
    obtain ⟨t2, a1, b1⟩ := kk r u t T'.heap (locs ++ L) e1.symm (by rw [← e2]; exact X'.warmed.alike) hp hb k1 k2 k3 T' rfl X'
    exact ⟨t2, st t2 a1, b1⟩
  · obtain ⟨k1, k2, k3⟩ := vx_keep h0 e1 hS hAX hf hL hF
    obtain ⟨t2, a1, b1⟩ := kx E ce q u t T'.heap (locs ++ L) e1.symm (by rw [← e2]; exact X'.warmed.alike) hp hb k1 k2 k3 (by rw [e1]; exact hce) hcv hcl T' rfl X'
    exact ⟨t2, st.trans a1, b1⟩
theorem vx_calld {S SX : Type} {post : UInt64 → S → Prop} {px : SX → Prop} {B : S → State → Prop} {BX : String → SX → State → Prop} {AX : Nat → Prop} (hr : vx_Run p l e R s m args below meth c H locs cells slots mc ms (F0 m pc ls st0) rest (va_Qd post B A1 a) (vx_X px BX AX) free) (hS : va_S A0 H0 H locs) (hA : ∀ q, q < H.size → A1 q → A0 q) (hf : ∀ q, free q → A0 q) (hAX : ∀ q, q < H.size → AX q → A0 q)
    (kx : ∀ (E : String) (ce : Cell) (q9 : Addr) (u : SX) (t : State) (H1 : Heap) (locs1 : List Loc), t.heap = H1 → s.vm.Alike t.vm → px u → BX E u t → H.size ≤ H1.size → (∀ q : Nat, q < H.size → ¬ AX q → H1[q]? = H[q]?) → va_S A0 H0 H1 locs1 → H1[q9]? = some ce → ce.vm = .none → s.vm.findClass E = some ce.cls → vx_W p l e R s m args below meth c H1 locs1 (cells + mc) (slots + ms) Q (F0 m pc ls rest) q9)
    (kk : ∀ (r : UInt64) (u : S) (t : State) (H1 : Heap) (locs1 : List Loc), t.heap = H1 → s.vm.Alike t.vm → post r u → B u t → H.size ≤ H1.size → (∀ q : Nat, q < H.size → ¬ A1 q → H1[q]? = H[q]?) → va_S A0 H0 H1 locs1 → W p l e R s m args below meth c H1 locs1 (cells + mc) (slots + ms) Q (F0 m (pc + 3) ls (.double r :: rest))) : W p l e R s m args below meth c H locs cells slots Q (F0 m pc ls st0) := by
  intro T hT X
  rcases hr T hT X with ⟨v, st₀, t, T', L, h0, X', hL, e1, e2, ⟨⟨r, u, hv, hp, hb⟩, hF⟩, st⟩ | ⟨q, st₀, t, T', L, E, ce, h0, X', hL, e1, e2, ⟨u, hp, hb, hF⟩, hce, hcv, hcl, st⟩
  · cases hv
    obtain ⟨k1, k2, k3⟩ := vx_keep h0 e1 hS hA hf hL hF
    obtain ⟨t2, a1, b1⟩ := kk r u t T'.heap (locs ++ L) e1.symm (by rw [← e2]; exact X'.warmed.alike) hp hb k1 k2 k3 T' rfl X'
    exact ⟨t2, st t2 a1, b1⟩
  · obtain ⟨k1, k2, k3⟩ := vx_keep h0 e1 hS hAX hf hL hF
    obtain ⟨t2, a1, b1⟩ := kx E ce q u t T'.heap (locs ++ L) e1.symm (by rw [← e2]; exact X'.warmed.alike) hp hb k1 k2 k3 (by rw [e1]; exact hce) hcv hcl T' rfl X'
    exact ⟨t2, st.trans a1, b1⟩
theorem vx_callv {S SX : Type} {post : S → Prop} {px : SX → Prop} {B : S → State → Prop} {BX : String → SX → State → Prop} {AX : Nat → Prop} (hr : vx_Run p l e R s m args below meth c H locs cells slots mc ms (F0 m pc ls st0) rest (va_Qv post B A1 a) (vx_X px BX AX) free) (hS : va_S A0 H0 H locs) (hA : ∀ q, q < H.size → A1 q → A0 q) (hf : ∀ q, free q → A0 q) (hAX : ∀ q, q < H.size → AX q → A0 q)
    (kx : ∀ (E : String) (ce : Cell) (q9 : Addr) (u : SX) (t : State) (H1 : Heap) (locs1 : List Loc), t.heap = H1 → s.vm.Alike t.vm → px u → BX E u t → H.size ≤ H1.size → (∀ q : Nat, q < H.size → ¬ AX q → H1[q]? = H[q]?) → va_S A0 H0 H1 locs1 → H1[q9]? = some ce → ce.vm = .none → s.vm.findClass E = some ce.cls → vx_W p l e R s m args below meth c H1 locs1 (cells + mc) (slots + ms) Q (F0 m pc ls rest) q9)
    (kk : ∀ (u : S) (t : State) (H1 : Heap) (locs1 : List Loc), t.heap = H1 → s.vm.Alike t.vm → post u → B u t → H.size ≤ H1.size → (∀ q : Nat, q < H.size → ¬ A1 q → H1[q]? = H[q]?) → va_S A0 H0 H1 locs1 → W p l e R s m args below meth c H1 locs1 (cells + mc) (slots + ms) Q (F0 m (pc + 3) ls (rest))) : W p l e R s m args below meth c H locs cells slots Q (F0 m pc ls st0) := by
  intro T hT X
  rcases hr T hT X with ⟨v, st₀, t, T', L, h0, X', hL, e1, e2, ⟨⟨u, hv, hp, hb⟩, hF⟩, st⟩ | ⟨q, st₀, t, T', L, E, ce, h0, X', hL, e1, e2, ⟨u, hp, hb, hF⟩, hce, hcv, hcl, st⟩
  · cases hv
    obtain ⟨k1, k2, k3⟩ := vx_keep h0 e1 hS hA hf hL hF
    obtain ⟨t2, a1, b1⟩ := kk u t T'.heap (locs ++ L) e1.symm (by rw [← e2]; exact X'.warmed.alike) hp hb k1 k2 k3 T' rfl X'
    exact ⟨t2, st t2 a1, b1⟩
  · obtain ⟨k1, k2, k3⟩ := vx_keep h0 e1 hS hAX hf hL hF
    obtain ⟨t2, a1, b1⟩ := kx E ce q u t T'.heap (locs ++ L) e1.symm (by rw [← e2]; exact X'.warmed.alike) hp hb k1 k2 k3 (by rw [e1]; exact hce) hcv hcl T' rfl X'
    exact ⟨t2, st.trans a1, b1⟩
/-- caught by the row x of this method's table; the rows ahead don't take it -/
theorem vx_catch {own name : String} {E : String} {ce : Cell} {q : Addr} (hown : s.vm.findClass own = some m.cls) (pre : List ExceptionTableEntry) (x : ExceptionTableEntry) (suf : List ExceptionTableEntry) (hsplit : c.exceptionTable.toList = pre ++ x :: suf)
    (hpass : ∀ z ∈ pre, covers z pc = false ∨ (z.catchType ≠ 0 ∧ ∃ nm : String, (Cond.classLink own z.catchType nm).before args s = true ∧ va_Nc E nm s)) (hx : covers x pc = true) (h0 : x.catchType ≠ 0)
    (hlink : (Cond.classLink own x.catchType name).before args s = true) (hcast : (Cond.castable E name).before args s = true) (hcell : H[q]? = some ce) (hv : ce.vm = .none) (hcl : s.vm.findClass E = some ce.cls)
    (kk : W p l e R s m args below meth c H locs cells slots Q (F0 m x.handlerPc ls [.ref q])) : vx_W p l e R s m args below meth c H locs cells slots Q (F0 m pc ls rest) q := by
  intro T hT X
  have hpl : e.platform.magicAccessors = ({} : Platform).magicAccessors := by rw [X.admits.platform]
  obtain ⟨c3, c4, hc3, hc4, hasg⟩ := Cond.castable_spec hcast
  cases Option.some.inj (hc3.symm.trans hcl)
  obtain ⟨c5, hc5, hcl5⟩ := Cond.classLink_spec hown hlink e.platform hpl
  cases Option.some.inj (hc4.symm.trans hc5)
  obtain ⟨vm', X', st⟩ := X.thenCaughtThrough q (g := F0 m pc ls rest) rfl (Steps.refl _) (by rw [hT]; exact hcell) (by rw [hv]; rfl) (by obtain ⟨k9, h9, -⟩ := Vm.findClass_spec hcl; exact ⟨k9, h9⟩) pre x suf hsplit
    (fun z hz => by
      rcases hpass z hz with h | ⟨hz0, nm, hl1, hn1⟩
      · exact Or.inl h
      · obtain ⟨c6, hc6, hcl6⟩ := Cond.classLink_spec hown hl1 e.platform hpl
        obtain ⟨a8, b8, h1, h2, h3⟩ := hn1
        cases Option.some.inj (h1.symm.trans hcl)
        cases Option.some.inj (h2.symm.trans hc6)
        exact Or.inr ⟨hz0, _, hcl6, h3⟩) hx (Or.inr ⟨h0, c4, hcl5, hasg⟩)
  obtain ⟨t, a1, b1⟩ := kk (T.setVm vm') hT X'
  exact ⟨t, st.trans a1, b1⟩
end Rows
section Ends
variable {p : Program} {l : Launch} {e : Env} {R : Room} {s : State} {m : MethodId} {args : Array Value} {below : List Frame} {meth : Method} {c : Code} {H : Heap} {locs : List Loc} {cells slots : Nat} {Q : State → Prop}
variable {mc ms : Nat} {free : Addr → Prop} {A0 A1 : Nat → Prop} {H0 : Heap} {a : Array Value} {ls : Array Slot} {st0 rest : List Value}
variable {Qc : Array Value → State → Outcome → State → Prop} {XC : String → State → State → Prop}
/-- what a body that may throw owes at its end -/
def vx_MQ (below : List Frame) (Qc : Array Value → State → Outcome → State → Prop) (XC : String → State → State → Prop) (a : Array Value) (s : State) (mc ms : Nat) (free : Addr → Prop) : State → Prop := fun t =>
  ∃ o, t.status = .running ∧ Ended t below o ∧ vx_Q Qc XC mc ms free a s o t
theorem vx_ret {g : JFrame} {mc ms : Nat} (k : W p l e R s m args below meth c H locs cells slots (MQ below Qc args s mc ms free) g) : W p l e R s m args below meth c H locs cells slots (vx_MQ below Qc XC args s mc ms free) g := by
  intro T hT X
  obtain ⟨t, a1, o, b1, b2, b3, b4⟩ := k T hT X
  exact ⟨t, a1, o, b1, b2, Or.inl ⟨b3, b4⟩⟩
/-- not caught here: it goes on to the caller -/
theorem vx_widen {g : JFrame} {q : Addr} {k n : Nat} (h1 : cells ≤ k) (h2 : slots ≤ n) (kk : vx_W p l e R s m args below meth c H locs k n Q g q) : vx_W p l e R s m args below meth c H locs cells slots Q g q := fun T hT X => kk T hT (stand_widen X h1 h2)
theorem vx_out {pc : Nat} {E : String} {ce : Cell} {q : Addr} {mc ms : Nat} (hout : ∀ x ∈ c.exceptionTable.toList, covers x pc = false) (hlocks : meth.locks = false) (hcell : H[q]? = some ce) (hv : ce.vm = .none) (hcl : s.vm.findClass E = some ce.cls)
    (hx : ∀ t : State, t.heap = H → s.vm.Alike t.vm → XC E s t) (hf : ∀ z ∈ locs, free z.base) (hc : cells ≤ mc) (hs : slots ≤ ms) :
    vx_W p l e R s m args below meth c H locs cells slots (vx_MQ below Qc XC args s mc ms free) (F0 m pc ls rest) q := by
  intro T hT X
  obtain ⟨st1, hrun, hend, hW, hsm⟩ := X.leaveThrown q (g := F0 m pc ls rest) rfl rfl rfl hout hlocks
  have hcell9 : (T.setFrames (.throwing q :: below)).heap[q]? = some ce := by
    show T.heap[q]? = some ce
    rw [hT]; exact hcell
  exact ⟨_, st1, .threw q, hrun, hend, Or.inr ⟨q, rfl, E, ce, locs, hx _ hT hW.alike, hcell9, hv, hcl, hW, hsm.mono hc hs, hf⟩⟩
theorem vx_frame {U : State} {k n : Nat} (h : s.sameButNew ({ U with vm := s.vm } : State) locs k n) : s.heap.size ≤ U.heap.size ∧ ∀ q : Nat, q < s.heap.size → (∀ z ∈ locs, z.base ≠ q) → U.heap[q]? = s.heap[q]? := by
  obtain ⟨-, h2, -, -, -, h6⟩ := h
  refine ⟨h2, fun q hq hz => ?_⟩
  obtain ⟨c9, e1, e2, e3, e4⟩ := h6 q _ (Array.getElem?_eq_getElem hq)
  have hs : c9.slots = (s.heap[q]).slots := Array.ext_getElem? fun i => e4 i fun hm => hz _ hm rfl
  have h9 : c9 = s.heap[q] := by
    rw [hs] at e2
    exact e2
  have e5 : U.heap[q]? = some c9 := e1
  rw [e5, h9, Array.getElem?_eq_getElem hq]
/-- the words of a throw but the four that speak of the heap -/
def vx_no (w : Cond) : Bool := decide (w ≠ .isRef (.static Bundle.tN "UNASSIGNED_STACK" Bundle.steD)) && decide (w ≠ .isRef (.static Bundle.tN "SUPPRESSED_SENTINEL" Bundle.listD)) && decide (w ≠ .laysStatic Bundle.tN "UNASSIGNED_STACK" Bundle.steD) && decide (w ≠ .laysStatic Bundle.tN "SUPPRESSED_SENTINEL" Bundle.listD)
def vx_at0 (own : String) (ic : Nat) (X : String) (names : List String) : List Cond := (Bundle.ownAtoms0 own ic X names).filter vx_no
def vx_atS (own : String) (ic : Nat) (X : String) (names : List String) : List Cond := (Bundle.ownAtoms own ic X names).filter vx_no
/-- a word that the tables alone decide, or a good one -/
def vx_ot (w : Cond) : Bool := w.onTables || goodWord w
theorem vx_ot_at {args a' : Array Value} {s U : State} {w : Cond} (hW : s.WarmedH U.vm) (hvm : s.vm = U.vm) (hg : vx_ot w = true) (h : w.before args s = true) : w.before a' U = true := by
  simp only [vx_ot, Bool.or_eq_true] at hg
  rcases hg with hg | hg
  · exact va_tabs hg hvm h
  · exact word_at hW (good_of_word hg) h
/-- a list's words: the good ones out of the method's own list, the others by premises of their own -/
theorem vx_hat {args : Array Value} {s : State} {L B : List Cond} (h1 : ∀ w ∈ L.filter goodWord, w.before args s = true) (h2 : ∀ w ∈ L.filter (fun w => !goodWord w), w ∈ B) (h3 : ∀ w ∈ B, w.before args s = true) : ∀ w ∈ L, w.before args s = true := by
  intro w hw
  by_cases g : goodWord w = true
  · exact h1 w (List.mem_filter.mpr ⟨hw, g⟩)
  · refine h3 w (h2 w (List.mem_filter.mpr ⟨hw, ?_⟩))
    show (!goodWord w) = true
    cases hgw : goodWord w
    · rfl
    · exact absurd hgw g
theorem vx_c {args : Array Value} {s : State} {w : Cond} {B : List Cond} (h : w.before args s = true) (t : ∀ w ∈ B, w.before args s = true) : ∀ w' ∈ w :: B, w'.before args s = true := fun w' h' => (List.mem_cons.mp h').elim (fun e => by rw [e]; exact h) (t w')
theorem vx_n {args : Array Value} {s : State} : ∀ w ∈ ([] : List Cond), w.before args s = true := fun _ h => nomatch h
theorem vx_own {args : Array Value} {s : State} {L : List Cond} (h1 : ∀ w ∈ L.filter vx_no, w.before args s = true)
    (hU : (Cond.isRef (.static Bundle.tN "UNASSIGNED_STACK" Bundle.steD)).before args s = true) (hN : (Cond.isRef (.static Bundle.tN "SUPPRESSED_SENTINEL" Bundle.listD)).before args s = true)
    (lU : (Cond.laysStatic Bundle.tN "UNASSIGNED_STACK" Bundle.steD).before args s = true) (lN : (Cond.laysStatic Bundle.tN "SUPPRESSED_SENTINEL" Bundle.listD).before args s = true) : ∀ w ∈ L, w.before args s = true := by
  intro w hw
  by_cases e1 : w = .isRef (.static Bundle.tN "UNASSIGNED_STACK" Bundle.steD)
  · rw [e1]; exact hU
  · by_cases e2 : w = .isRef (.static Bundle.tN "SUPPRESSED_SENTINEL" Bundle.listD)
    · rw [e2]; exact hN
    · by_cases e3 : w = .laysStatic Bundle.tN "UNASSIGNED_STACK" Bundle.steD
      · rw [e3]; exact lU
      · by_cases e4 : w = .laysStatic Bundle.tN "SUPPRESSED_SENTINEL" Bundle.listD
        · rw [e4]; exact lN
        · exact h1 w (List.mem_filter.mpr ⟨hw, by unfold vx_no; rw [decide_eq_true e1, decide_eq_true e2, decide_eq_true e3, decide_eq_true e4]; rfl⟩)
/-- where a static field lies, its class's statics cell in H -/
def vx_L (C n d : String) (A : Nat → Prop) (U : State) (H : Heap) : Prop := ∃ (c : ClassId) (k : Class) (i : Nat) (f : Field) (a : Nat) (cell : Cell), U.vm.findClass C = some c ∧ U.fieldFound? C n d = some (c, k, i, f) ∧ f.isStatic = true ∧ k.statics = some a ∧ H[a]? = some cell ∧ cell.vm.isStatics = true ∧ cell.cls = c ∧ f.slot < cell.slots.size ∧ k.staticTypes[f.slot]? = some f.type ∧ ¬ A a
theorem vx_L.moved {C n d : String} {A : Nat → Prop} {u U : State} {H : Heap} (hvm : u.vm.Alike U.vm) (h : vx_L C n d A u H) : vx_L C n d A U H := by
  obtain ⟨c, k, i, f, a, cell, h1, h2, h3, h4, h5, h6, h7, h8, h9, h10⟩ := h
  obtain ⟨k', hi', he⟩ := State.fieldFound?_setVm hvm h2
  exact ⟨c, k', i, f, a, cell, by rw [hvm.findClass]; exact h1, hi', h3, by rw [he]; exact h4, h5, h6, h7, h8, by rw [he]; exact h9, h10⟩
theorem vx_L.kept {C n d : String} {A : Nat → Prop} {U : State} {H H1 : Heap} (h : vx_L C n d A U H) (hq : ∀ a : Nat, a < H.size → ¬ A a → H1[a]? = H[a]?) : vx_L C n d A U H1 := by
  obtain ⟨c, k, i, f, a, cell, h1, h2, h3, h4, h5, h6, h7, h8, h9, h10⟩ := h
  exact ⟨c, k, i, f, a, cell, h1, h2, h3, h4, by rw [hq a (Array.getElem?_eq_some_iff.mp h5).1 h10]; exact h5, h6, h7, h8, h9, h10⟩
theorem vx_L.narrow {C n d : String} {A B : Nat → Prop} {U : State} {H : Heap} (h : vx_L C n d A U H) (hAB : ∀ q, B q → A q) : vx_L C n d B U H := by
  obtain ⟨c, k, i, f, a, cell, h1, h2, h3, h4, h5, h6, h7, h8, h9, h10⟩ := h
  exact ⟨c, k, i, f, a, cell, h1, h2, h3, h4, h5, h6, h7, h8, h9, fun z => h10 (hAB _ z)⟩
theorem vx_L.word {C n d : String} {A : Nat → Prop} {s : State} {args : Array Value} (h : vx_L C n d A s s.heap) : (Cond.laysStatic C n d).before args s = true := by
  obtain ⟨c, k, i, f, a, cell, h1, h2, h3, h4, h5, h6, h7, h8, h9, -⟩ := h
  show (Cond.laysStatic C n d).holds args s none s [] = true
  exact Cond.laysStatic_of h1 h2 h3 h4 h5 h6 h7 h8 h9
/-- .. and what it holds: null or some reference -/
def vx_Zq (C n d : String) (A : Nat → Prop) (U : State) (H : Heap) : Prop := va_Zq C n d A U H ∧ vx_L C n d A U H
theorem vx_Zq.moved {C n d : String} {A : Nat → Prop} {u U : State} {H : Heap} (hvm : u.vm.Alike U.vm) (h : vx_Zq C n d A u H) : vx_Zq C n d A U H := ⟨va_Zq.moved hvm h.1, vx_L.moved hvm h.2⟩
theorem vx_Zq.kept {C n d : String} {A : Nat → Prop} {U : State} {H H1 : Heap} (h : vx_Zq C n d A U H) (hq : ∀ a : Nat, a < H.size → ¬ A a → H1[a]? = H[a]?) : vx_Zq C n d A U H1 := ⟨va_Zq.kept h.1 hq, vx_L.kept h.2 hq⟩
theorem vx_Zq.narrow {C n d : String} {A B : Nat → Prop} {U : State} {H : Heap} (h : vx_Zq C n d A U H) (hAB : ∀ q, B q → A q) : vx_Zq C n d B U H := ⟨va_Zq.narrow h.1 hAB, vx_L.narrow h.2 hAB⟩
theorem vx_Zqof {args : Array Value} {s : State} {C n d : String} {A : Nat → Prop} (hl : (Cond.laysStatic C n d).before args s = true) (hini : (Cond.initialized C).before args s = true) (h : (Cond.isRef (.static C n d)).before args s = true) (hA : ∀ a : Nat, a < s.heap.size → ¬ A a) : vx_Zq C n d A s s.heap := by
  refine ⟨va_Zqof hl hini h hA, ?_⟩
  obtain ⟨c, k, i, f, a, cell, h1, h2, h3, h4, h5, h6, h7, h8, h9⟩ := Cond.laysStatic_spec hl
  exact ⟨c, k, i, f, a, cell, h1, h2, h3, h4, h5, h6, h7, h8, h9, hA a (Array.getElem?_eq_some_iff.mp h5).1⟩
theorem vx_isRef {C n d : String} {v : Value} {A : Nat → Prop} {s : State} {args : Array Value} (h : va_Z C n d v A s s.heap) (hv : v.isRef = true) : (Cond.isRef (.static C n d)).before args s = true := by
  obtain ⟨cf, kf, fi, f, a, cell, h1, h2, h3, h4, h5, h6, h7, -⟩ := h
  have he : (Term.static C n d).eval args s none [] s = some v := by
    simp [Term.eval, State.fieldNamed?, h1, h2, h4, h5, h6, h7]
  simp only [Cond.before, Cond.holds, Cond.value, he]
  cases v <;> simp_all [Value.isRef]
theorem vx_isRefq {C n d : String} {A : Nat → Prop} {s : State} {args : Array Value} (h : va_Zq C n d A s s.heap) : (Cond.isRef (.static C n d)).before args s = true := by
  rcases h with h | ⟨t, h⟩
  · exact vx_isRef h rfl
  · exact vx_isRef h rfl
/-- the same frame, seen from here: as if the method were called anew in this heap -/
theorem vx_rebase {T : State} (X : Stand p l e R s m args below meth c T locs cells slots) {R' : Room} (hf : R'.frames ≤ R.frames) (hl : R'.locals ≤ R.locals) (hc : cells + R'.cells ≤ R.cells) (hs : slots + R'.slots ≤ R.slots) :
    Stand p l e R' ((T.setVm s.vm).setFrames (.invoking m args :: below)) m args below meth c T [] 0 0 := by
  have htop : (T.setVm s.vm).topJava?.isSome := X.here.top
  have hF : ((T.setVm s.vm).setFrames (.invoking m args :: below)).frames = .invoking m args :: below := State.frames_setFrames _ (State.cur_lt_of_top htop)
  obtain ⟨g₀, hg0⟩ := Option.isSome_iff_exists.mp htop
  obtain ⟨r, hr⟩ := State.topJava?_eq_some.mp hg0
  have hl9 : e.platform.stackLimits (T.setVm s.vm).me = e.platform.stackLimits s.me := X.limits
  have hb9 : (T.setVm s.vm).me.stackBytes = s.me.stackBytes := X.bytes
  refine ⟨X.admits, X.cas, X.clock, hF, ?_, X.hears, X.method, X.code, X.here, X.tail, X.warmed, ?_, ?_, ?_⟩
  · have h := X.room
    have hU : ((T.setVm s.vm).setFrames (.invoking m args :: below)).localsInUse = s.localsInUse := by
      rw [State.localsInUse_invoking hF (meth := meth) (c := c) X.method X.code, State.localsInUse_invoking X.frames X.method X.code]
    simp only [State.hasRoom, Bool.and_eq_true, decide_eq_true_eq] at h ⊢
    obtain ⟨⟨⟨⟨h1, h2, h3, h4, h5, h6⟩, h7⟩, h8⟩, h9⟩ := h
    rw [X.frames, List.length_cons] at h2 h3
    have q1 := X.heapSize
    have q2 := X.used
    simp only [hF, hU, List.length_cons, State.stackLimits_setFrames, State.stackBytes_setFrames, hl9, hb9]
    refine ⟨⟨⟨⟨by omega, by omega, by omega, by omega, by omega, h6⟩, ?_⟩, ?_⟩, X.book⟩
    · show T.heap.size + R'.cells ≤ e.platform.maxCells
      omega
    · show T.slotsUsed + R'.slots ≤ e.platform.maxSlots
      omega
  · rw [State.stackLimits_setFrames]; rfl
  · rw [State.stackBytes_setFrames]; rfl
  · refine ⟨?_, Nat.le_refl _, Nat.le_refl _, ?_, ?_, fun a c9 h9 => ⟨c9, h9, rfl, rfl, fun _ _ => rfl⟩⟩
    · obtain ⟨t, ht, -⟩ := State.frames_cons hr
      show T.setVm s.vm = { ((T.setVm s.vm).setFrames (.invoking m args :: below)).setFrames (T.setVm s.vm).frames with heap := T.heap, slotsUsed := T.slotsUsed }
      rw [State.setFrames_setFrames, State.setFrames_self ht]
      rfl
    · show T.slotsUsed = T.slotsUsed + ((T.heap.toList.drop T.heap.size).map (·.slots.size)).sum
      rw [List.drop_eq_nil_of_le (Nat.le_of_eq Array.length_toList)]
      rfl
    · show ((T.heap.toList.drop T.heap.size).map (·.slots.size)).sum ≤ 0
      rw [List.drop_eq_nil_of_le (Nat.le_of_eq Array.length_toList)]
      exact Nat.le_refl _
/-- 'throw new E()': new; dup; invokespecial; athrow -/
theorem vx_throw0 {cc : ByteArray} {pc : Nat} (hexec : p.tables.exec = Jvm.exec) (hb : c.code = cc) (hl : l.stackTraces = false) {own cls : String} {names : List String} {ik ic mc ms : Nat} {A : Nat → Prop}
    (hown : s.vm.findClass own = some m.cls) (hcls : Bundle.fit cls = true) (hnames : ∀ n ∈ names, Bundle.fit n = true)
    (hk : (Cond.classLink own ik cls).before args s = true) (hini : (Cond.initialized cls).before args s = true) (hat : ∀ w ∈ vx_at0 own ic cls names, w.before args s = true)
    (hgood : ∀ w ∈ Cond.classLink own ik cls :: Cond.initialized cls :: vx_at0 own ic cls names, vx_ot w = true)
    (hU : vx_Zq Bundle.tN "UNASSIGNED_STACK" Bundle.steD A s s.heap) (hN : vx_Zq Bundle.tN "SUPPRESSED_SENTINEL" Bundle.listD A s s.heap) (hS : va_S A s.heap H locs) (hsize : ls.size = c.maxLocals)
    (d0 : decode cc pc = .ok (.new ik, 3)) (d3 : decode cc (pc + 3) = .ok (.dup, 1)) (d4 : decode cc (pc + 4) = .ok (.invokespecial ic, 3)) (d7 : decode cc (pc + 7) = .ok (.athrow, 1))
    (hout : ∀ x ∈ c.exceptionTable.toList, covers x (pc + 7) = false)
    (hRframes : names.length + 3 < R.frames) (hRlocals : (rest.map fun v => v.category).sum + (13 * (names.length + 1) + 42) ≤ R.locals) (hRcells : cells + 1 ≤ R.cells) (hRslots : slots + 6 ≤ R.slots) (hlocks : meth.locks = false)
    (hx : ∀ t : State, s.vm.Alike t.vm → H.size ≤ t.heap.size → (∀ q : Nat, q < H.size → t.heap[q]? = H[q]?) → XC cls s t)
    (hf : ∀ z ∈ locs, free z.base) (hc : cells + 1 ≤ mc) (hs : slots + 6 ≤ ms) :
    W p l e R s m args below meth c H locs cells slots (vx_MQ below Qc XC args s mc ms free) (F0 m pc ls rest) := by
  intro T hT X
  have htr : e.platform.stackTraces = false := (show e.platform.stackTraces = l.stackTraces by rw [X.admits.platform]).trans hl
  have Y := vx_rebase X (R' := { frames := R.frames, locals := R.locals, cells := 1, slots := 6 }) (Nat.le_refl _) (Nat.le_refl _) hRcells hRslots
  obtain ⟨s', hA⟩ : ∃ z, z = (T.setVm s.vm).setFrames (.invoking m args :: below) := ⟨_, rfl⟩
  rw [← hA] at Y
  have hvm : s'.vm = s.vm := by rw [hA]; rfl
  have hhp : s'.heap = H := by rw [hA]; exact hT
  have hW0 : s.WarmedH s'.vm := by rw [hvm]; exact State.WarmedH.refl s
  have hat' : ∀ w ∈ vx_at0 own ic cls names, w.before args s' = true := fun w hw => vx_ot_at hW0 hvm.symm (hgood w (List.mem_cons_of_mem _ (List.mem_cons_of_mem _ hw))) (hat w hw)
  have hk' : (Cond.classLink own ik cls).before args s' = true := vx_ot_at hW0 hvm.symm (hgood _ List.mem_cons_self) hk
  have hini' : (Cond.initialized cls).before args s' = true := vx_ot_at hW0 hvm.symm (hgood _ (List.mem_cons_of_mem _ List.mem_cons_self)) hini
  have hU' : vx_Zq Bundle.tN "UNASSIGNED_STACK" Bundle.steD A s' s'.heap := by rw [hhp]; exact vx_Zq.moved hW0.alike (hU.kept hS.2.1)
  have hN' : vx_Zq Bundle.tN "SUPPRESSED_SENTINEL" Bundle.listD A s' s'.heap := by rw [hhp]; exact vx_Zq.moved hW0.alike (hN.kept hS.2.1)
  have h : ∀ w ∈ Bundle.ownAtoms0 own ic cls names, w.before args s' = true := vx_own hat' (vx_isRefq hU'.1) (vx_isRefq hN'.1) hU'.2.word hN'.2.word
  have hown' : s'.vm.findClass own = some m.cls := by rw [hvm]; exact hown
  have hins : (Cond.instantiable cls 6).before args s' = true := h _ (by simp [Bundle.ownAtoms0])
  obtain ⟨vm₁, cX, kX, hfX, hkX, -, -, X₁, st1⟩ := Y.newCold hexec (own := own) (C := cls) (index := ik) (n := 6) hown' hk' hins hini'
    (g := F0 m pc ls rest) rfl (by rw [hb]; exact d0) (Nat.le_refl _) (Nat.le_refl _)
  generalize hT1 : (T.setVm vm₁).pushCell { cls := cX, slots := kX.instanceTypes.map defaultValue, vm := .none } = T1 at X₁ st1
  have hcat : (Value.ref T.heap.size).category = 1 := rfl
  have hcellA : T1.heap[T.heap.size]? = some (freshCell cX kX) := by rw [← hT1]; exact State.heap_pushCell_size _ _
  have d3' : decode c.code (pc + 3) = .ok (.dup, 1) := by rw [hb]; exact d3
  obtain ⟨U, hsteps, hrun, hend, hW, hsame, ce, hce, hO⟩ := X₁.ctorThrow0 hexec htr (own := own) (cls := cls) (names := names) (ic := ic) hown' hcls hnames h (fun x hx => nomatch hx) hfX hkX hcellA (by rw [hhp, hT]; exact Nat.le_refl _)
    (g := { method := m, pc := pc + 4, locals := ls, stack := .ref T.heap.size :: .ref T.heap.size :: rest, locked := none }) rfl hsize rfl rfl (rest := rest) rfl
    (by rw [hb]; exact d4) (by rw [hb]; exact d7) hout hRframes (by simp only [List.map_cons, List.sum_cons, hcat]; omega) hlocks
  obtain ⟨f1, f2⟩ := vx_frame hsame
  rw [hhp] at f1 f2
  have hWs : s.WarmedH U.vm := State.WarmedH.trans hW0 hW
  have hcl : s.vm.findClass cls = some ce.cls := by
    have h9 := hO.cls
    rw [hvm] at h9
    exact h9
  have hall : s.sameButNew ({ U with vm := s.vm } : State) locs mc ms := by
    subst hA
    obtain ⟨e1, e2⟩ := hsame
    rw [State.setFrames_setFrames] at e1
    have h2 : (T.setVm s.vm).sameButNew ({ U with vm := s.vm } : State) [] (0 + 1) (0 + 6) := ⟨e1, e2⟩
    have h3 := X.same.trans h2
    rw [List.append_nil] at h3
    exact h3.mono hc hs
  refine ⟨U, ?_, .threw T.heap.size, hrun, hend, Or.inr ⟨T.heap.size, rfl, cls, ce, locs, hx U hWs.alike f1 (fun q hq => f2 q hq (fun z hz => nomatch hz)), hce, hO.vm, hcl, hWs, hall, hf⟩⟩
  refine st1 _ ?_
  show Steps p.tables e below (T1.setTop { method := m, pc := pc + 3, locals := ls, stack := .ref T.heap.size :: rest, locked := none }) _
  jvm_step X₁.here [X₁.here.top, hexec, d3', Value.category]
  exact hsteps
/-- 'throw new E("text")': new; dup; ldc; invokespecial; athrow -/
theorem vx_throwS {cc : ByteArray} {pc : Nat} (hexec : p.tables.exec = Jvm.exec) (hb : c.code = cc) (hl : l.stackTraces = false) {own cls text : String} {names : List String} {ik is ic mc ms sa : Nat} {A : Nat → Prop}
    (hown : s.vm.findClass own = some m.cls) (hcls : Bundle.fit cls = true) (hnames : ∀ n ∈ names, Bundle.fit n = true)
    (hk : (Cond.classLink own ik cls).before args s = true) (hini : (Cond.initialized cls).before args s = true) (hstr : vk_R own is text sa s) (hat : ∀ w ∈ vx_atS own ic cls names, w.before args s = true)
    (hgood : ∀ w ∈ Cond.classLink own ik cls :: Cond.initialized cls :: vx_atS own ic cls names, vx_ot w = true)
    (hU : vx_Zq Bundle.tN "UNASSIGNED_STACK" Bundle.steD A s s.heap) (hN : vx_Zq Bundle.tN "SUPPRESSED_SENTINEL" Bundle.listD A s s.heap) (hS : va_S A s.heap H locs) (hsize : ls.size = c.maxLocals)
    (d0 : decode cc pc = .ok (.new ik, 3)) (d3 : decode cc (pc + 3) = .ok (.dup, 1)) (d4 : decode cc (pc + 4) = .ok (.ldc is, 2)) (d6 : decode cc (pc + 6) = .ok (.invokespecial ic, 3)) (d9 : decode cc (pc + 9) = .ok (.athrow, 1))
    (hout : ∀ x ∈ c.exceptionTable.toList, covers x (pc + 9) = false)
    (hRframes : names.length + 3 < R.frames) (hRlocals : (rest.map fun v => v.category).sum + (13 * (names.length + 1) + 43) ≤ R.locals) (hRcells : cells + 1 ≤ R.cells) (hRslots : slots + 6 ≤ R.slots) (hlocks : meth.locks = false)
    (hx : ∀ t : State, s.vm.Alike t.vm → H.size ≤ t.heap.size → (∀ q : Nat, q < H.size → t.heap[q]? = H[q]?) → XC cls s t)
    (hf : ∀ z ∈ locs, free z.base) (hc : cells + 1 ≤ mc) (hs : slots + 6 ≤ ms) :
    W p l e R s m args below meth c H locs cells slots (vx_MQ below Qc XC args s mc ms free) (F0 m pc ls rest) := by
  intro T hT X
  have htr : e.platform.stackTraces = false := (show e.platform.stackTraces = l.stackTraces by rw [X.admits.platform]).trans hl
  have Y := vx_rebase X (R' := { frames := R.frames, locals := R.locals, cells := 1, slots := 6 }) (Nat.le_refl _) (Nat.le_refl _) hRcells hRslots
  obtain ⟨s', hA⟩ : ∃ z, z = (T.setVm s.vm).setFrames (.invoking m args :: below) := ⟨_, rfl⟩
  rw [← hA] at Y
  have hvm : s'.vm = s.vm := by rw [hA]; rfl
  have hhp : s'.heap = H := by rw [hA]; exact hT
  have hW0 : s.WarmedH s'.vm := by rw [hvm]; exact State.WarmedH.refl s
  have hat' : ∀ w ∈ vx_atS own ic cls names, w.before args s' = true := fun w hw => vx_ot_at hW0 hvm.symm (hgood w (List.mem_cons_of_mem _ (List.mem_cons_of_mem _ hw))) (hat w hw)
  have hk' : (Cond.classLink own ik cls).before args s' = true := vx_ot_at hW0 hvm.symm (hgood _ List.mem_cons_self) hk
  have hini' : (Cond.initialized cls).before args s' = true := vx_ot_at hW0 hvm.symm (hgood _ (List.mem_cons_of_mem _ List.mem_cons_self)) hini
  have hU' : vx_Zq Bundle.tN "UNASSIGNED_STACK" Bundle.steD A s' s'.heap := by rw [hhp]; exact vx_Zq.moved hW0.alike (hU.kept hS.2.1)
  have hN' : vx_Zq Bundle.tN "SUPPRESSED_SENTINEL" Bundle.listD A s' s'.heap := by rw [hhp]; exact vx_Zq.moved hW0.alike (hN.kept hS.2.1)
  have h : ∀ w ∈ Bundle.ownAtoms own ic cls names, w.before args s' = true := vx_own hat' (vx_isRefq hU'.1) (vx_isRefq hN'.1) hU'.2.word hN'.2.word
  have hown' : s'.vm.findClass own = some m.cls := by rw [hvm]; exact hown
  have hins : (Cond.instantiable cls 6).before args s' = true := h _ (by simp [Bundle.ownAtoms])
  obtain ⟨vm₁, cX, kX, hfX, hkX, -, -, X₁, st1⟩ := Y.newCold hexec (own := own) (C := cls) (index := ik) (n := 6) hown' hk' hins hini'
    (g := F0 m pc ls rest) rfl (by rw [hb]; exact d0) (Nat.le_refl _) (Nat.le_refl _)
  generalize hT1 : (T.setVm vm₁).pushCell { cls := cX, slots := kX.instanceTypes.map defaultValue, vm := .none } = T1 at X₁ st1
  have hcat : (Value.ref T.heap.size).category = 1 := rfl
  have hcellA : T1.heap[T.heap.size]? = some (freshCell cX kX) := by rw [← hT1]; exact State.heap_pushCell_size _ _
  have d3' : decode c.code (pc + 3) = .ok (.dup, 1) := by rw [hb]; exact d3
  have d4' : decode c.code (pc + 4) = .ok (.ldc is, 2) := by rw [hb]; exact d4
  have hstr' : vk_R own is text sa s' := vk_R.warm hW0 hstr
  obtain ⟨U, hsteps, hrun, hend, hW, hsame, ce, hce, hO⟩ := X₁.ctorThrowS hexec htr (own := own) (cls := cls) (names := names) (ic := ic) hown' hcls hnames h (fun x hx => nomatch hx) hfX hkX hcellA (by rw [hhp, hT]; exact Nat.le_refl _) (msg := .ref sa) rfl
    (g := { method := m, pc := pc + 6, locals := ls, stack := .ref sa :: .ref T.heap.size :: .ref T.heap.size :: rest, locked := none }) rfl hsize rfl rfl (rest := rest) rfl
    (by rw [hb]; exact d6) (by rw [hb]; exact d9) hout hRframes (by simp only [List.map_cons, List.sum_cons, hcat]; omega) hlocks
  obtain ⟨f1, f2⟩ := vx_frame hsame
  rw [hhp] at f1 f2
  have hWs : s.WarmedH U.vm := State.WarmedH.trans hW0 hW
  have hcl : s.vm.findClass cls = some ce.cls := by
    have h9 := hO.cls
    rw [hvm] at h9
    exact h9
  have hall : s.sameButNew ({ U with vm := s.vm } : State) locs mc ms := by
    subst hA
    obtain ⟨e1, e2⟩ := hsame
    rw [State.setFrames_setFrames] at e1
    have h2 : (T.setVm s.vm).sameButNew ({ U with vm := s.vm } : State) [] (0 + 1) (0 + 6) := ⟨e1, e2⟩
    have h3 := X.same.trans h2
    rw [List.append_nil] at h3
    exact h3.mono hc hs
  refine ⟨U, ?_, .threw T.heap.size, hrun, hend, Or.inr ⟨T.heap.size, rfl, cls, ce, locs, hx U hWs.alike f1 (fun q hq => f2 q hq (fun z hz => nomatch hz)), hce, hO.vm, hcl, hWs, hall, hf⟩⟩
  refine st1 _ ?_
  show Steps p.tables e below (T1.setTop { method := m, pc := pc + 3, locals := ls, stack := .ref T.heap.size :: rest, locked := none }) _
  jvm_step X₁.here [X₁.here.top, hexec, d3', Value.category]
  exact X₁.ldcString hexec (own := own) (text := text) (index := is) (a := sa) hown' hstr'.1 hstr'.2
    (g := { method := m, pc := pc + 4, locals := ls, stack := .ref T.heap.size :: .ref T.heap.size :: rest, locked := none }) rfl d4' _ hsteps
/-- 'throw new E("text")', the text by a wide index -/
theorem vx_throwSW {cc : ByteArray} {pc : Nat} (hexec : p.tables.exec = Jvm.exec) (hb : c.code = cc) (hl : l.stackTraces = false) {own cls text : String} {names : List String} {ik is ic mc ms sa : Nat} {A : Nat → Prop}
    (hown : s.vm.findClass own = some m.cls) (hcls : Bundle.fit cls = true) (hnames : ∀ n ∈ names, Bundle.fit n = true)
    (hk : (Cond.classLink own ik cls).before args s = true) (hini : (Cond.initialized cls).before args s = true) (hstr : vk_R own is text sa s) (hat : ∀ w ∈ vx_atS own ic cls names, w.before args s = true)
    (hgood : ∀ w ∈ Cond.classLink own ik cls :: Cond.initialized cls :: vx_atS own ic cls names, vx_ot w = true)
    (hU : vx_Zq Bundle.tN "UNASSIGNED_STACK" Bundle.steD A s s.heap) (hN : vx_Zq Bundle.tN "SUPPRESSED_SENTINEL" Bundle.listD A s s.heap) (hS : va_S A s.heap H locs) (hsize : ls.size = c.maxLocals)
    (d0 : decode cc pc = .ok (.new ik, 3)) (d3 : decode cc (pc + 3) = .ok (.dup, 1)) (d4 : decode cc (pc + 4) = .ok (.ldc_w is, 3)) (d7 : decode cc (pc + 7) = .ok (.invokespecial ic, 3)) (d10 : decode cc (pc + 10) = .ok (.athrow, 1))
    (hout : ∀ x ∈ c.exceptionTable.toList, covers x (pc + 10) = false)
    (hRframes : names.length + 3 < R.frames) (hRlocals : (rest.map fun v => v.category).sum + (13 * (names.length + 1) + 43) ≤ R.locals) (hRcells : cells + 1 ≤ R.cells) (hRslots : slots + 6 ≤ R.slots) (hlocks : meth.locks = false)
    (hx : ∀ t : State, s.vm.Alike t.vm → H.size ≤ t.heap.size → (∀ q : Nat, q < H.size → t.heap[q]? = H[q]?) → XC cls s t)
    (hf : ∀ z ∈ locs, free z.base) (hc : cells + 1 ≤ mc) (hs : slots + 6 ≤ ms) :
    W p l e R s m args below meth c H locs cells slots (vx_MQ below Qc XC args s mc ms free) (F0 m pc ls rest) := by
  intro T hT X
  have htr : e.platform.stackTraces = false := (show e.platform.stackTraces = l.stackTraces by rw [X.admits.platform]).trans hl
  have Y := vx_rebase X (R' := { frames := R.frames, locals := R.locals, cells := 1, slots := 6 }) (Nat.le_refl _) (Nat.le_refl _) hRcells hRslots
  obtain ⟨s', hA⟩ : ∃ z, z = (T.setVm s.vm).setFrames (.invoking m args :: below) := ⟨_, rfl⟩
  rw [← hA] at Y
  have hvm : s'.vm = s.vm := by rw [hA]; rfl
  have hhp : s'.heap = H := by rw [hA]; exact hT
  have hW0 : s.WarmedH s'.vm := by rw [hvm]; exact State.WarmedH.refl s
  have hat' : ∀ w ∈ vx_atS own ic cls names, w.before args s' = true := fun w hw => vx_ot_at hW0 hvm.symm (hgood w (List.mem_cons_of_mem _ (List.mem_cons_of_mem _ hw))) (hat w hw)
  have hk' : (Cond.classLink own ik cls).before args s' = true := vx_ot_at hW0 hvm.symm (hgood _ List.mem_cons_self) hk
  have hini' : (Cond.initialized cls).before args s' = true := vx_ot_at hW0 hvm.symm (hgood _ (List.mem_cons_of_mem _ List.mem_cons_self)) hini
  have hU' : vx_Zq Bundle.tN "UNASSIGNED_STACK" Bundle.steD A s' s'.heap := by rw [hhp]; exact vx_Zq.moved hW0.alike (hU.kept hS.2.1)
  have hN' : vx_Zq Bundle.tN "SUPPRESSED_SENTINEL" Bundle.listD A s' s'.heap := by rw [hhp]; exact vx_Zq.moved hW0.alike (hN.kept hS.2.1)
  have h : ∀ w ∈ Bundle.ownAtoms own ic cls names, w.before args s' = true := vx_own hat' (vx_isRefq hU'.1) (vx_isRefq hN'.1) hU'.2.word hN'.2.word
  have hown' : s'.vm.findClass own = some m.cls := by rw [hvm]; exact hown
  have hins : (Cond.instantiable cls 6).before args s' = true := h _ (by simp [Bundle.ownAtoms])
  obtain ⟨vm₁, cX, kX, hfX, hkX, -, -, X₁, st1⟩ := Y.newCold hexec (own := own) (C := cls) (index := ik) (n := 6) hown' hk' hins hini'
    (g := F0 m pc ls rest) rfl (by rw [hb]; exact d0) (Nat.le_refl _) (Nat.le_refl _)
  generalize hT1 : (T.setVm vm₁).pushCell { cls := cX, slots := kX.instanceTypes.map defaultValue, vm := .none } = T1 at X₁ st1
  have hcat : (Value.ref T.heap.size).category = 1 := rfl
  have hcellA : T1.heap[T.heap.size]? = some (freshCell cX kX) := by rw [← hT1]; exact State.heap_pushCell_size _ _
  have d3' : decode c.code (pc + 3) = .ok (.dup, 1) := by rw [hb]; exact d3
  have d4' : decode c.code (pc + 4) = .ok (.ldc_w is, 3) := by rw [hb]; exact d4
  have hstr' : vk_R own is text sa s' := vk_R.warm hW0 hstr
  obtain ⟨U, hsteps, hrun, hend, hW, hsame, ce, hce, hO⟩ := X₁.ctorThrowS hexec htr (own := own) (cls := cls) (names := names) (ic := ic) hown' hcls hnames h (fun x hx => nomatch hx) hfX hkX hcellA (by rw [hhp, hT]; exact Nat.le_refl _) (msg := .ref sa) rfl
    (g := { method := m, pc := pc + 7, locals := ls, stack := .ref sa :: .ref T.heap.size :: .ref T.heap.size :: rest, locked := none }) rfl hsize rfl rfl (rest := rest) rfl
    (by rw [hb]; exact d7) (by rw [hb]; exact d10) hout hRframes (by simp only [List.map_cons, List.sum_cons, hcat]; omega) hlocks
  obtain ⟨f1, f2⟩ := vx_frame hsame
  rw [hhp] at f1 f2
  have hWs : s.WarmedH U.vm := State.WarmedH.trans hW0 hW
  have hcl : s.vm.findClass cls = some ce.cls := by
    have h9 := hO.cls
    rw [hvm] at h9
    exact h9
  have hall : s.sameButNew ({ U with vm := s.vm } : State) locs mc ms := by
    subst hA
    obtain ⟨e1, e2⟩ := hsame
    rw [State.setFrames_setFrames] at e1
    have h2 : (T.setVm s.vm).sameButNew ({ U with vm := s.vm } : State) [] (0 + 1) (0 + 6) := ⟨e1, e2⟩
    have h3 := X.same.trans h2
    rw [List.append_nil] at h3
    exact h3.mono hc hs
  refine ⟨U, ?_, .threw T.heap.size, hrun, hend, Or.inr ⟨T.heap.size, rfl, cls, ce, locs, hx U hWs.alike f1 (fun q hq => f2 q hq (fun z hz => nomatch hz)), hce, hO.vm, hcl, hWs, hall, hf⟩⟩
  refine st1 _ ?_
  show Steps p.tables e below (T1.setTop { method := m, pc := pc + 3, locals := ls, stack := .ref T.heap.size :: rest, locked := none }) _
  jvm_step X₁.here [X₁.here.top, hexec, d3', Value.category]
  exact X₁.ldcStringW hexec (own := own) (text := text) (index := is) (a := sa) hown' hstr'.1 hstr'.2
    (g := { method := m, pc := pc + 4, locals := ls, stack := .ref T.heap.size :: .ref T.heap.size :: rest, locked := none }) rfl d4' _ hsteps
end Ends
section Bodies
variable {l : Launch}
theorem vx_ofW {y : MethodName} {ws ws' : List Cond} {rm : Room} {Pc : Array Value → State → Prop} {Qc : Array Value → State → Outcome → State → Prop} {XC : String → State → State → Prop} {mc ms : Nat} {free : Addr → Prop} {cc : ByteArray} {maxL : Nat} {ret : Option FieldType}
    (hy : plainName y.cls = true) (hw : ws = Cond.code y cc maxL ret :: ws')
    (body : ∀ p e s m args below meth c s₁, BodyLoose p l y (headSpec ws rm) cc maxL ret e s m args below meth c s₁ → c.maxLocals = maxL → (∀ x ∈ c.exceptionTable.toList, False) → Pc args s →
      W p l e (headSpec ws rm).room s m args below meth c s.heap [] 0 0 (vx_MQ below Qc XC args s mc ms free) (entryFrame m args maxL)) : vx_Met l y ws rm Pc Qc XC mc ms free := by
  refine MetFree.of_bodyS (code := cc) (maxLocals := maxL) (ret := ret) hy ?_ ?_
  · intro args s m h hn
    obtain ⟨meth, c, h1, h2, h3, h4, h5, h6, -, -⟩ := Cond.code_spec hn (atoms_spec (ws := ws) h _ (by rw [hw]; exact List.mem_cons_self))
    exact ⟨meth, c, h1, h2, h3, h4, h5, h6⟩
  · intro p e s m args below meth c s₁ B hml hP _
    have hh0 : s₁.heap = s.heap := by rw [B.state]; rfl
    have ht : ∀ x ∈ c.exceptionTable.toList, False := by
      obtain ⟨meth9, c9, h1, h2, -, -, -, -, h7, -⟩ := Cond.code_spec B.named (atoms_spec (ws := ws) B.pre _ (by rw [hw]; exact List.mem_cons_self))
      cases Option.some.inj (h1.symm.trans B.method)
      cases Option.some.inj (h2.symm.trans (Stand.of_body B).code)
      intro x hx
      rw [Array.isEmpty_iff.mp h7] at hx
      cases hx
    obtain ⟨t, a1, o, b1, b2, b3⟩ := body p e s m args below meth c s₁ B hml ht hP s₁ hh0 (Stand.of_body B)
    exact ⟨t, o, a1, b1, b2, b3⟩
/-- the table of a body with handlers -/
theorem vx_table {p : Program} {x y : MethodName} {S : Spec} {cc bytes : ByteArray} {maxL maxL' : Nat} {ret ret' : Option FieldType} {e : Env} {s s₁ : State} {m : MethodId} {args : Array Value} {below : List Frame} {meth : Method} {c : Code} {hh : List (Nat × Nat × Nat × Nat)}
    (B : BodyLoose p l y S cc maxL ret e s m args below meth c s₁) (h : (Cond.codeWith y bytes maxL' ret' hh).before args s = true) : c.exceptionTable.toList = tableOf hh := by
  obtain ⟨m9, meth9, c9, hn9, h1, h2, -, -, h6, -⟩ := Cond.codeWith_spec h
  cases Option.some.inj (hn9.symm.trans B.named)
  cases Option.some.inj (h1.symm.trans B.method)
  cases Option.some.inj (h2.symm.trans (Stand.of_body B).code)
  rw [← h6, table_eq]
end Bodies
end VXA
/-! ===== END ===== -/
/-! ===== BEGIN a static call of a method with an exception table ===== -/
section VXS
variable {p : Program} {l : Launch} {e : Env} {R : Room} {s : State} {m : MethodId} {args : Array Value} {below : List Frame} {meth : Method} {c : Code} {T : State} {H : Heap} {locs : List Loc} {cells slots : Nat}
abbrev vx_CSW (R : Room) (s : State) (args : Array Value) (own : String) (index : Nat) (y : MethodName) (bytes : ByteArray) (maxL : Nat) (ret : Option FieldType) (hh : List (Nat × Nat × Nat × Nat)) (ws : List Cond) (rm : Room) (mc ms n : Nat) : Prop :=
  (rm.cells = mc ∧ rm.slots = ms ∧ rm.frames + 1 ≤ R.frames ∧ 8 + (maxL + 11) + rm.locals ≤ R.locals ∧ (∀ w ∈ ws, ∀ (a' : Array Value) (U : State), s.WarmedH U.vm → w.before a' U = true) ∧ Cond.codeWith y bytes maxL ret hh ∈ ws) ∧
  (Cond.codeWith y bytes maxL ret hh).before args s = true ∧ (Cond.initialized y.cls).before args s = true ∧ (y.cls ≠ "java/lang/invoke/MethodHandle" ∧ y.cls ≠ "java/lang/invoke/VarHandle") ∧
  (∀ sig, parseMethodDescriptor y.desc = some sig → n = sig.parameters.length) ∧ (Cond.methodLink own index y).before args s = true ∧ (Cond.static y).before args s = true
theorem vx_cwSW {own : String} {index maxL mc ms : Nat} {y : MethodName} {bytes : ByteArray} {ret : Option FieldType} {hh : List (Nat × Nat × Nat × Nat)} {Ts ws ws' : List Cond} {rm : Room} (n : Nat) (ht : ∀ w ∈ Ts, w.before args s = true) (hT : GoodIn Ts (va_wsS own index y ws)) (hw : ws = Cond.codeWith y bytes maxL ret hh :: ws') (hrc : rm.cells = mc) (hrs : rm.slots = ms)
    (hd : y.cls ≠ "java/lang/invoke/MethodHandle" ∧ y.cls ≠ "java/lang/invoke/VarHandle" ∧ (parseMethodDescriptor y.desc).map (fun d => d.parameters.length) = some n) (hR : rm.frames + 1 ≤ R.frames ∧ 8 + (maxL + 11) + rm.locals ≤ R.locals) :
    vx_CSW R s args own index y bytes maxL ret hh ws rm mc ms n := by
  have ok : ∀ w ∈ va_wsS own index y ws, w.before args s = true := fun w h => ht w (hT w h).1
  have hG : GoodIn Ts ws := fun w h => hT w (by unfold va_wsS; exact List.mem_append_right _ h)
  have hc : Cond.codeWith y bytes maxL ret hh ∈ ws := by rw [hw]; exact List.mem_cons_self
  refine ⟨⟨hrc, hrs, hR.1, hR.2, pay_in ht hG, hc⟩, ht _ (hG _ hc).1, ok _ (by simp [va_wsS]), ⟨hd.1, hd.2.1⟩, fun sig h => ?_, ok _ (by simp [va_wsS]), ok _ (by simp [va_wsS])⟩
  have h2 := hd.2.2
  rw [h] at h2
  exact (Option.some.inj h2).symm
theorem vx_callSW (X : Stand p l e R s m args below meth c T locs cells slots) (hexec : p.tables.exec = Jvm.exec) {own : String} {index : Nat} {y : MethodName} {bytes : ByteArray} {maxL : Nat} {ret : Option FieldType} {hh : List (Nat × Nat × Nat × Nat)}
    (hown : s.vm.findClass own = some m.cls) (hlink : (Cond.methodLink own index y).before args s = true) (hstat : (Cond.static y).before args s = true) (hinit : (Cond.initialized y.cls).before args s = true)
    (hcode : (Cond.codeWith y bytes maxL ret hh).before args s = true) (hy : y.cls ≠ "java/lang/invoke/MethodHandle" ∧ y.cls ≠ "java/lang/invoke/VarHandle")
    {W9 : Nat} {Pre : Pt → Array Value → Prop} {Post : Pt → Array Value → Option Value → Pt → Prop} (hK : Back l R p e below s args y 3 W9 Pre Post)
    {g : JFrame} (hg : g.method = m) (hsize : g.locals.size = c.maxLocals) {argsL rest : List Value} (hlen : ∀ sig, parseMethodDescriptor y.desc = some sig → argsL.length = sig.parameters.length)
    (hstack : g.stack = argsL.reverse ++ rest) (hW : 2 * g.monitorRoom + (rest.map fun v => v.category).sum ≤ W9) (hdg : decode c.code g.pc = .ok (.invokestatic index, 3))
    (hpre : ∀ vm₁, s.WarmedH vm₁ → Pre ⟨T.setVm vm₁, locs, cells, slots⟩ argsL.toArray) :
    ∃ (v : Option Value) (vm₁ : Vm) (B : Pt), s.WarmedH vm₁ ∧ Stand p l e R s m args below meth c B.U B.locs B.cells B.slots ∧ Post ⟨T.setVm vm₁, locs, cells, slots⟩ argsL.toArray v B ∧
      ∀ target, Steps p.tables e below (B.U.setTop { g with pc := g.pc + 3, stack := v.toList ++ rest }) target → Steps p.tables e below (T.setTop g) target := by
  obtain ⟨mk, methM, cM, hnamed, hmethM, -, -, -, -, -, -, hsigM⟩ := Cond.codeWith_spec hcode
  have hstatic : methM.isStatic = true := Cond.static_spec hnamed hmethM hstat
  obtain ⟨kP, hkP, -⟩ := className_of_methodNamed hnamed
  have hinitP : kP.init = .initialized := Cond.initialized_spec (findClass_of_methodNamed hnamed) hkP hinit
  obtain ⟨vm₁, X₁, hstep₁⟩ := X.invokestatic hexec hown hlink hnamed hmethM hstatic hkP hinitP hy (g := g) hg (argsL := argsL) (rest := rest) (hlen _ hsigM) hstack hdg
  obtain ⟨v, B, X', hpost, hsteps⟩ := hK m meth c ⟨T.setVm vm₁, locs, cells, slots⟩ { g with stack := rest } (.invokestatic index) mk argsL.toArray X₁ hg hsize hdg hW (X₁.named hnamed) (hpre vm₁ X₁.warmed)
  exact ⟨v, vm₁, B, X₁.warmed, X', hpost, fun target h => hstep₁ _ fun acts => by rw [doInvoke_state]; exact hsteps.trans h⟩
theorem vx_runSW {y : MethodName} {bytes cc : ByteArray} {maxL nL mc ms n index : Nat} {ret : Option FieldType} {hh : List (Nat × Nat × Nat × Nat)} {ws : List Cond} {rm : Room} {Pc : Array Value → State → Prop} {Qc : Array Value → State → Outcome → State → Prop} {free : Addr → Prop} {Ts : List Cond} {own : String} {As rest : List Value} {g : JFrame}
    (S : CallFix p m c cc nL s args Ts own) (hM : Met l y ws rm Pc Qc mc ms free) (cw : vx_CSW R s args own index y bytes maxL ret hh ws rm mc ms n) (hp : PreS s H Pc As)
    (hg : g.method = m) (hn : As.length = n) (hsize : g.locals.size = nL) (hstack : g.stack = As.reverse ++ rest) (hW : 2 * g.monitorRoom + (rest.map fun v => v.category).sum ≤ 8) (hdg : decode cc g.pc = .ok (.invokestatic index, 3)) (hf : cells + mc ≤ R.cells ∧ slots + ms ≤ R.slots) :
    va_Run p l e R s m args below meth c H locs cells slots mc ms g rest (Qc As.toArray) (free) := by
  obtain ⟨⟨hrc, hrs, hfr, hlo, hws, hcw⟩, hcode, hini, hy, hlen, hl, hstt⟩ := cw
  have hK : Back l R p e below s args y 3 8 (PreOf R mc ms Pc) (PostOf Qc mc ms free) := va_backW (hh := hh) (bytes := bytes) (maxL := maxL) (ret := ret) hM hp.1 hrc hrs hfr hlo hws hcw (fun a' U hW => word_at hW (Or.inl (by first | rfl | simp [Cond.onTables, Cond.keeps, Cond.steady])) hini)
  obtain ⟨hx, hb, hml, ho, -⟩ := S
  intro T hT X
  obtain ⟨v, vm₁, ⟨U', l2, c2, s2⟩, hW₁, X', ⟨g', mk, t, L, e1, e2, hq, h1, hL, h2, h3⟩, st⟩ := vx_callSW X hx (hh := hh) (bytes := bytes) (maxL := maxL) (ret := ret) ho hl hstt hini hcode hy hK hg (hsize.trans hml.symm) (argsL := As) (rest := rest) (fun sig h => hn.trans (hlen sig h)) hstack hW (by rw [hb]; exact hdg)
    (fun vm₁ hW₁ => ⟨hf.1, hf.2, hp.2 (T.setVm vm₁) hT hW₁⟩)
  dsimp only [Pt.U, Pt.locs, Pt.cells, Pt.slots] at X' e1 e2 h1 h2 h3 st
  subst h1; subst h2; subst h3
  exact ⟨v, (T.setVm vm₁).calling g' mk As.toArray, t, U', L, hT, X', hL, e1, e2, hq, st⟩
/-- not caught here, past rows that name other classes: it goes on to the caller -/
theorem vx_outP {p : Program} {l : Launch} {e : Env} {R : Room} {s : State} {m : MethodId} {args : Array Value} {below : List Frame} {meth : Method} {c : Code} {H : Heap} {locs : List Loc} {cells slots : Nat} {free : Addr → Prop} {ls : Array Slot} {rest : List Value} {Qc : Array Value → State → Outcome → State → Prop} {XC : String → State → State → Prop}
    {pc : Nat} {own E : String} {ce : Cell} {q : Addr} {mc ms : Nat} (hown : s.vm.findClass own = some m.cls) (hlocks : meth.locks = false)
    (hpass : ∀ z ∈ c.exceptionTable.toList, covers z pc = false ∨ (z.catchType ≠ 0 ∧ ∃ nm : String, (Cond.classLink own z.catchType nm).before args s = true ∧ va_Nc E nm s)) (hcell : H[q]? = some ce) (hv : ce.vm = .none) (hcl : s.vm.findClass E = some ce.cls)
    (hx : ∀ t : State, t.heap = H → s.vm.Alike t.vm → XC E s t) (hf : ∀ z ∈ locs, free z.base) (hc : cells ≤ mc) (hs : slots ≤ ms) :
    vx_W p l e R s m args below meth c H locs cells slots (vx_MQ below Qc XC args s mc ms free) (F0 m pc ls rest) q := by
  intro T hT X
  have hpl : e.platform.magicAccessors = ({} : Platform).magicAccessors := by rw [X.admits.platform]
  obtain ⟨vm', hW', X', st⟩ := X.outThrough hlocks q (g := F0 m pc ls rest) rfl rfl rfl (cell := ce) (by rw [hT]; exact hcell) (by rw [hv]; rfl)
    (by obtain ⟨k9, h9, -⟩ := Vm.findClass_spec hcl; exact ⟨k9, h9⟩) (fun z hz => by
      rcases hpass z hz with h | ⟨hz0, nm, hl1, hn1⟩
      · exact Or.inl h
      · obtain ⟨c6, hc6, hcl6⟩ := Cond.classLink_spec hown hl1 e.platform hpl
        obtain ⟨a8, b8, h1, h2, h3⟩ := hn1
        cases Option.some.inj (h1.symm.trans hcl)
        cases Option.some.inj (h2.symm.trans hc6)
        exact Or.inr ⟨hz0, _, hcl6, h3⟩)
  obtain ⟨g₀, hfr⟩ := X'.frames_eq
  have hcell9 : ((T.setVm vm').setFrames (.throwing q :: below)).heap[q]? = some ce := by
    show T.heap[q]? = some ce
    rw [hT]; exact hcell
  have hend : Ended ((T.setVm vm').setFrames (.throwing q :: below)) below (.threw q) := State.frames_setFrames _ (State.cur_lt_of_frames hfr)
  refine ⟨(T.setVm vm').setFrames (.throwing q :: below), ?_, .threw q, X'.here.running, hend, Or.inr ⟨q, rfl, E, ce, locs, hx _ hT (X'.ends _).1.alike, hcell9, hv, hcl, (X'.ends _).1, (X'.ends _).2.mono hc hs, hf⟩⟩
  rw [X.pushThrowing_eq]
  exact st
/-- a thing of a world lies in the heap -/
theorem vx_lt {D : va_G} {cl : List vw_C} {ws : va_W} {H1 : Heap} (h : va_P D cl ws H1) {k : Nat} {q : Nat × va_E} (hk : ws[k]? = some q) : q.1 < H1.size := (h k q hk).lt
end VXS
/-! ===== END ===== -/
/-! ===== BEGIN methods with a table of their own: called by a name, returning or throwing ===== -/
section VXH
/-! vx_backW, vx_callVX, vx_callSX, vx_callVW, vx_runVW, vx_runVX, vx_runSX, vx_ofWH follow the same proofs as their sisters above (Free/Laws.lean, Shelf42/LK1.lean); vx_outP calls Shelf42/NT130.lean (outThrough). -/
section
variable {l : Launch} {R : Room} {p : Program} {e : Env} {below : List Frame} {s : State} {sargs : Array Value} {y : MethodName} {len W9 : Nat}
theorem vx_backW {ws : List Cond} {rm : Room} {Pc : Array Value → State → Prop} {Qc : Array Value → State → Outcome → State → Prop} {XC : String → State → State → Prop} {mc ms : Nat} {free : Addr → Prop} {bytes : ByteArray} {maxL : Nat} {ret : Option FieldType} {hh : List (Nat × Nat × Nat × Nat)}
    (hM : vx_Met l y ws rm Pc Qc XC mc ms free) (hblind : FrameBlind Pc) (hrc : rm.cells = mc) (hrs : rm.slots = ms)
    (hframes : rm.frames + 1 ≤ R.frames) (hlocals : W9 + (maxL + 11) + rm.locals ≤ R.locals)
    (hws : ∀ w ∈ ws, ∀ a' U, s.WarmedH U.vm → w.before a' U = true) (hcode : Cond.codeWith y bytes maxL ret hh ∈ ws) (hinit : ∀ a' U, s.WarmedH U.vm → (Cond.initialized y.cls).before a' U = true) :
    vx_Back l R p e below s sargs y len W9 (PreOf R mc ms Pc) (PostOf Qc mc ms free) (vx_Post XC mc ms free) := by
  intro m meth c A g ig mk a X hg hsize hdg hW hn hp
  have h1 : (headSpec ws rm).pre.before a A.U = true := atoms_intro fun w hw => hws w hw _ _ X.warmed
  have h2 : (Cond.codeWith y bytes maxL ret hh).before a A.U = true := hws _ hcode _ _ X.warmed
  have h3 : (Cond.initialized y.cls).before a A.U = true := hinit _ _ X.warmed
  have h4 : A.cells + (headSpec ws rm).room.cells ≤ R.cells := by rw [show (headSpec ws rm).room.cells = mc from hrc]; exact hp.1
  have h5 : A.slots + (headSpec ws rm).room.slots ≤ R.slots := by rw [show (headSpec ws rm).room.slots = ms from hrs]; exact hp.2.1
  have hPc : Pc a (A.U.calling g mk a) := hblind _ _ _ _ hp.2.2
  obtain ⟨U, Ls, c0, s0⟩ := A
  dsimp only [Pt.U, Pt.locs, Pt.cells, Pt.slots] at h1 h2 h3 h4 h5 X hn hPc ⊢
  obtain ⟨m9, methY, cY, hn9, hmY, hcY, -, hlY, -⟩ := Cond.codeWith_spec h2
  cases Option.some.inj (hn9.symm.trans hn)
  obtain ⟨kY, hkY, -⟩ := className_of_methodNamed hn
  have hinitY : kY.init = .initialized := Cond.initialized_spec (findClass_of_methodNamed hn) hkY h3
  have h : At U g.method c below := by rw [hg]; exact X.here
  have hlocals9 : W9 + (maxL + 11) + (headSpec ws rm).room.locals ≤ R.locals := hlocals
  have happ : (headSpec ws rm).appliesLoose y e.platform (U.calling g mk a) = true :=
    Spec.appliesLoose_calling (g := g) h hdg hn hkY hinitY
      (X.room_calling (g := g) (R' := (headSpec ws rm).room) hsize hmY hcY hframes (by rw [hlY]; omega) h4 h5) h1
  obtain ⟨mid, hmid⟩ := h.above
  have hfr : (U.setTop g).frames = (.java g :: mid) ++ below := by rw [State.frames_setTop' g h.top, hmid]; rfl
  obtain ⟨o, s₂, hsteps, -, hend, hq⟩ := Steps.callFree hM p X.admits X.cas X.clock (acts := []) hfr happ hPc trivial
  have hq' : vx_Q Qc XC mc ms free a (U.calling g mk a) o s₂ := hq
  rw [State.frames_setTop' g h.top] at hend
  obtain ⟨g₀, hg0⟩ := Option.isSome_iff_exists.mp h.top
  obtain ⟨r, hr⟩ := State.topJava?_eq_some.mp hg0
  have hr' : (({ U with heap := s₂.heap, slotsUsed := s₂.slotsUsed } : State).setVm s₂.vm).frames = .java g₀ :: r := hr
  rcases hq' with ⟨hqc, L, hfe, hL⟩ | ⟨q, rfl, E, ce, L, hx, hce, hcv, hcl, hW₂, hsm, hL⟩
  · obtain ⟨⟨v, rfl⟩, hW₂, e2, q2, q3, q4, q5, q6⟩ := id hfe
    have e3 : s₂ = ({ (U.calling g mk a).setFrames s₂.frames with heap := s₂.heap, slotsUsed := s₂.slotsUsed } : State).setVm s₂.vm := by
      have : s₂ = ({ s₂ with vm := (U.calling g mk a).vm } : State).setVm s₂.vm := rfl
      rw [e2] at this
      exact this
    obtain ⟨c₂, i₂, len₂, hc₂, hd₂, hf₂⟩ := hend
    have hW' : U.WarmedH s₂.vm := hW₂
    have hcc : c₂ = c := by
      have h1 : s₂.code? g.method = U.code? g.method := by
        rw [State.code?_eq, State.code?_eq, hW'.alike.method?]
      exact Option.some.inj (hc₂.symm.trans (h1.trans h.code))
    subst hcc
    have hlen : len₂ = len := by rw [hdg] at hd₂; cases hd₂; rfl
    subst hlen
    have hs₂ : s₂ = (({ U with heap := s₂.heap, slotsUsed := s₂.slotsUsed } : State).setVm s₂.vm).setTop { g with pc := g.pc + len₂, stack := v.toList ++ g.stack } := by
      refine e3.trans ?_
      rw [hf₂, State.calling_eq h.top, State.setFrames_setFrames, State.setTop_of_frames _ hr', hr]
      rfl
    have hsame : U.sameButNew ({ U with heap := s₂.heap, slotsUsed := s₂.slotsUsed } : State) L mc ms := by
      refine ⟨?_, q2, q3, q4, q5, q6⟩
      obtain ⟨t, ht, -⟩ := State.frames_cons hr
      show ({ U with heap := s₂.heap, slotsUsed := s₂.slotsUsed } : State) = { U.setFrames U.frames with heap := s₂.heap, slotsUsed := s₂.slotsUsed }
      rw [State.setFrames_self ht]
    subst hg
    refine Or.inl ⟨v, ⟨(({ U with heap := s₂.heap, slotsUsed := s₂.slotsUsed } : State).setVm s₂.vm), Ls ++ L, c0 + mc, s0 + ms⟩,
      ⟨X.admits, X.cas, X.clock, X.frames, X.room, X.hears, X.method, X.code, (X.here.setHeapUsed s₂.heap s₂.slotsUsed).setVm hW'.alike, X.tail, State.WarmedH.trans X.warmed hW', X.limits, X.bytes, X.same.trans (hsame.setVm s.vm)⟩,
      ⟨g, mk, s₂, L, rfl, rfl, hqc, rfl, hL, rfl, rfl⟩, ?_⟩
    show Steps p.tables e below _ ((({ U with heap := s₂.heap, slotsUsed := s₂.slotsUsed } : State).setVm s₂.vm).setTop { g with pc := g.pc + len₂, stack := v.toList ++ g.stack })
    rw [← hs₂]
    exact hsteps
  · obtain ⟨e2, q2, q3, q4, q5, q6⟩ := id hsm
    have e3 : s₂ = ({ (U.calling g mk a).setFrames s₂.frames with heap := s₂.heap, slotsUsed := s₂.slotsUsed } : State).setVm s₂.vm := by
      have : s₂ = ({ s₂ with vm := (U.calling g mk a).vm } : State).setVm s₂.vm := rfl
      rw [e2] at this
      exact this
    have hf₂ : s₂.frames = .throwing q :: .java g :: U.frames.tail := hend
    have hW' : U.WarmedH s₂.vm := hW₂
    have hs₂ : s₂ = ((({ U with heap := s₂.heap, slotsUsed := s₂.slotsUsed } : State).setVm s₂.vm).setTop g).pushFrame (.throwing q) := by
      refine e3.trans ?_
      rw [hf₂, State.calling_eq h.top, State.setFrames_setFrames, State.pushFrame, State.frames_setTop _ hr', State.setTop_of_frames _ hr', State.setFrames_setFrames, hr]
      rfl
    have hsame : U.sameButNew ({ U with heap := s₂.heap, slotsUsed := s₂.slotsUsed } : State) L mc ms := by
      refine ⟨?_, q2, q3, q4, q5, q6⟩
      obtain ⟨t, ht, -⟩ := State.frames_cons hr
      show ({ U with heap := s₂.heap, slotsUsed := s₂.slotsUsed } : State) = { U.setFrames U.frames with heap := s₂.heap, slotsUsed := s₂.slotsUsed }
      rw [State.setFrames_self ht]
    subst hg
    refine Or.inr ⟨q, ⟨(({ U with heap := s₂.heap, slotsUsed := s₂.slotsUsed } : State).setVm s₂.vm), Ls ++ L, c0 + mc, s0 + ms⟩,
      ⟨X.admits, X.cas, X.clock, X.frames, X.room, X.hears, X.method, X.code, (X.here.setHeapUsed s₂.heap s₂.slotsUsed).setVm hW'.alike, X.tail, State.WarmedH.trans X.warmed hW', X.limits, X.bytes, X.same.trans (hsame.setVm s.vm)⟩,
      ⟨g, mk, s₂, L, E, ce, rfl, rfl, hx, hce, hcv, hcl, rfl, hL, rfl, rfl⟩, ?_⟩
    show Steps p.tables e below _ (((({ U with heap := s₂.heap, slotsUsed := s₂.slotsUsed } : State).setVm s₂.vm).setTop g).pushFrame (.throwing q))
    rw [← hs₂]
    exact hsteps
end
variable {p : Program} {l : Launch} {e : Env} {R : Room} {s : State} {m : MethodId} {args : Array Value} {below : List Frame} {meth : Method} {c : Code} {T : State} {H : Heap} {locs : List Loc} {cells slots : Nat}
theorem vx_callVX (X : Stand p l e R s m args below meth c T locs cells slots) (hexec : p.tables.exec = Jvm.exec) {own C : String} {index : Nat} {y : MethodName} {bytes : ByteArray} {maxL : Nat} {ret : Option FieldType} {hh : List (Nat × Nat × Nat × Nat)}
    (hown : s.vm.findClass own = some m.cls) (hlink : (Cond.methodLink own index y).before args s = true) (hinst : (Cond.instanceMethod y).before args s = true) (hsel : (Cond.selects C y y).before args s = true)
    (hcode : (Cond.codeWith y bytes maxL ret hh).before args s = true) (hy : y.cls ≠ "java/lang/invoke/MethodHandle" ∧ y.cls ≠ "java/lang/invoke/VarHandle")
    {W9 : Nat} {Pre : Pt → Array Value → Prop} {Post : Pt → Array Value → Option Value → Pt → Prop} {PostX : Pt → Array Value → Addr → Pt → Prop} (hK : vx_Back l R p e below s args y 3 W9 Pre Post PostX)
    {b : Addr} {cellB : Cell} (hcell : T.heap[b]? = some cellB) (hobj : cellB.vm.isStatics = false) (hcls : s.vm.findClass C = some cellB.cls)
    {g : JFrame} (hg : g.method = m) (hsize : g.locals.size = c.maxLocals) {argsL rest : List Value} (hlen : ∀ sig, parseMethodDescriptor y.desc = some sig → argsL.length = sig.parameters.length)
    (hstack : g.stack = argsL.reverse ++ .ref b :: rest) (hW : 2 * g.monitorRoom + (rest.map fun v => v.category).sum ≤ W9) (hdg : decode c.code g.pc = .ok (.invokevirtual index, 3))
    (hpre : ∀ vm₁, s.WarmedH vm₁ → Pre ⟨T.setVm vm₁, locs, cells, slots⟩ (Value.ref b :: argsL).toArray) :
    (∃ (v : Option Value) (vm₁ : Vm) (B : Pt), s.WarmedH vm₁ ∧ Stand p l e R s m args below meth c B.U B.locs B.cells B.slots ∧ Post ⟨T.setVm vm₁, locs, cells, slots⟩ (Value.ref b :: argsL).toArray v B ∧
      ∀ target, Steps p.tables e below (B.U.setTop { g with pc := g.pc + 3, stack := v.toList ++ rest }) target → Steps p.tables e below (T.setTop g) target) ∨
    (∃ (q : Addr) (vm₁ : Vm) (B : Pt), s.WarmedH vm₁ ∧ Stand p l e R s m args below meth c B.U B.locs B.cells B.slots ∧ PostX ⟨T.setVm vm₁, locs, cells, slots⟩ (Value.ref b :: argsL).toArray q B ∧
      Steps p.tables e below (T.setTop g) ((B.U.setTop { g with stack := rest }).pushFrame (.throwing q))) := by
  obtain ⟨mk, methM, hnamed, hmethM, hstM, habM⟩ := Cond.instanceMethod_spec hinst
  obtain ⟨m8, methM', cM, hn8, hmethM', -, -, -, -, -, -, hsigM⟩ := Cond.codeWith_spec hcode
  cases Option.some.inj (hn8.symm.trans hnamed)
  cases hmethM.symm.trans hmethM'
  obtain ⟨c2, r2, m2, q1, q2, q3, q4, kP, hkP, hkPi⟩ := Cond.selects_spec hsel
  cases hcls.symm.trans q1
  cases (State.methodFound?_of_named hnamed hy).symm.trans q2
  cases hnamed.symm.trans q3
  have hselP : selectMethod e.platform s.vm cellB.cls mk = .method mk := by rw [Launch.admits_selectMethod X.admits]; exact q4
  obtain ⟨vm₁, X₁, hstep₁⟩ := X.invokevirtual hexec hown hlink hnamed hmethM hstM hkP hkPi hy (a := b) (cell := cellB) hcell
    (fun z h => by rw [h] at hobj; cases hobj) hselP hmethM habM hkP hkPi (g := g) hg (argsL := argsL) (rest := rest) (hlen _ hsigM) hstack hdg
  rcases hK m meth c ⟨T.setVm vm₁, locs, cells, slots⟩ { g with stack := rest } (.invokevirtual index) mk (Value.ref b :: argsL).toArray X₁ hg hsize hdg hW (X₁.named hnamed) (hpre vm₁ X₁.warmed) with ⟨v, B, X', hpost, hsteps⟩ | ⟨q, B, X', hpost, hsteps⟩
  · exact Or.inl ⟨v, vm₁, B, X₁.warmed, X', hpost, fun target h => hstep₁ _ fun acts => by rw [doInvoke_state]; exact hsteps.trans h⟩
  · exact Or.inr ⟨q, vm₁, B, X₁.warmed, X', hpost, hstep₁ _ fun acts => by rw [doInvoke_state]; exact hsteps⟩
theorem vx_callSX (X : Stand p l e R s m args below meth c T locs cells slots) (hexec : p.tables.exec = Jvm.exec) {own : String} {index : Nat} {y : MethodName} {bytes : ByteArray} {maxL : Nat} {ret : Option FieldType} {hh : List (Nat × Nat × Nat × Nat)}
    (hown : s.vm.findClass own = some m.cls) (hlink : (Cond.methodLink own index y).before args s = true) (hstat : (Cond.static y).before args s = true) (hinit : (Cond.initialized y.cls).before args s = true)
    (hcode : (Cond.codeWith y bytes maxL ret hh).before args s = true) (hy : y.cls ≠ "java/lang/invoke/MethodHandle" ∧ y.cls ≠ "java/lang/invoke/VarHandle")
    {W9 : Nat} {Pre : Pt → Array Value → Prop} {Post : Pt → Array Value → Option Value → Pt → Prop} {PostX : Pt → Array Value → Addr → Pt → Prop} (hK : vx_Back l R p e below s args y 3 W9 Pre Post PostX)
    {g : JFrame} (hg : g.method = m) (hsize : g.locals.size = c.maxLocals) {argsL rest : List Value} (hlen : ∀ sig, parseMethodDescriptor y.desc = some sig → argsL.length = sig.parameters.length)
    (hstack : g.stack = argsL.reverse ++ rest) (hW : 2 * g.monitorRoom + (rest.map fun v => v.category).sum ≤ W9) (hdg : decode c.code g.pc = .ok (.invokestatic index, 3))
    (hpre : ∀ vm₁, s.WarmedH vm₁ → Pre ⟨T.setVm vm₁, locs, cells, slots⟩ argsL.toArray) :
    (∃ (v : Option Value) (vm₁ : Vm) (B : Pt), s.WarmedH vm₁ ∧ Stand p l e R s m args below meth c B.U B.locs B.cells B.slots ∧ Post ⟨T.setVm vm₁, locs, cells, slots⟩ argsL.toArray v B ∧
      ∀ target, Steps p.tables e below (B.U.setTop { g with pc := g.pc + 3, stack := v.toList ++ rest }) target → Steps p.tables e below (T.setTop g) target) ∨
    (∃ (q : Addr) (vm₁ : Vm) (B : Pt), s.WarmedH vm₁ ∧ Stand p l e R s m args below meth c B.U B.locs B.cells B.slots ∧ PostX ⟨T.setVm vm₁, locs, cells, slots⟩ argsL.toArray q B ∧
      Steps p.tables e below (T.setTop g) ((B.U.setTop { g with stack := rest }).pushFrame (.throwing q))) := by
  obtain ⟨mk, methM, cM, hnamed, hmethM, -, -, -, -, -, -, hsigM⟩ := Cond.codeWith_spec hcode
  have hstatic : methM.isStatic = true := Cond.static_spec hnamed hmethM hstat
  obtain ⟨kP, hkP, -⟩ := className_of_methodNamed hnamed
  have hinitP : kP.init = .initialized := Cond.initialized_spec (findClass_of_methodNamed hnamed) hkP hinit
  obtain ⟨vm₁, X₁, hstep₁⟩ := X.invokestatic hexec hown hlink hnamed hmethM hstatic hkP hinitP hy (g := g) hg (argsL := argsL) (rest := rest) (hlen _ hsigM) hstack hdg
  rcases hK m meth c ⟨T.setVm vm₁, locs, cells, slots⟩ { g with stack := rest } (.invokestatic index) mk argsL.toArray X₁ hg hsize hdg hW (X₁.named hnamed) (hpre vm₁ X₁.warmed) with ⟨v, B, X', hpost, hsteps⟩ | ⟨q, B, X', hpost, hsteps⟩
  · exact Or.inl ⟨v, vm₁, B, X₁.warmed, X', hpost, fun target h => hstep₁ _ fun acts => by rw [doInvoke_state]; exact hsteps.trans h⟩
  · exact Or.inr ⟨q, vm₁, B, X₁.warmed, X', hpost, hstep₁ _ fun acts => by rw [doInvoke_state]; exact hsteps⟩
theorem vx_callVW (X : Stand p l e R s m args below meth c T locs cells slots) (hexec : p.tables.exec = Jvm.exec) {own C : String} {index : Nat} {y : MethodName} {bytes : ByteArray} {maxL : Nat} {ret : Option FieldType} {hh : List (Nat × Nat × Nat × Nat)}
    (hown : s.vm.findClass own = some m.cls) (hlink : (Cond.methodLink own index y).before args s = true) (hinst : (Cond.instanceMethod y).before args s = true) (hsel : (Cond.selects C y y).before args s = true)
    (hcode : (Cond.codeWith y bytes maxL ret hh).before args s = true) (hy : y.cls ≠ "java/lang/invoke/MethodHandle" ∧ y.cls ≠ "java/lang/invoke/VarHandle")
    {W9 : Nat} {Pre : Pt → Array Value → Prop} {Post : Pt → Array Value → Option Value → Pt → Prop} (hK : Back l R p e below s args y 3 W9 Pre Post)
    {b : Addr} {cellB : Cell} (hcell : T.heap[b]? = some cellB) (hobj : cellB.vm.isStatics = false) (hcls : s.vm.findClass C = some cellB.cls)
    {g : JFrame} (hg : g.method = m) (hsize : g.locals.size = c.maxLocals) {argsL rest : List Value} (hlen : ∀ sig, parseMethodDescriptor y.desc = some sig → argsL.length = sig.parameters.length)
    (hstack : g.stack = argsL.reverse ++ .ref b :: rest) (hW : 2 * g.monitorRoom + (rest.map fun v => v.category).sum ≤ W9) (hdg : decode c.code g.pc = .ok (.invokevirtual index, 3))
    (hpre : ∀ vm₁, s.WarmedH vm₁ → Pre ⟨T.setVm vm₁, locs, cells, slots⟩ (Value.ref b :: argsL).toArray) :
    ∃ (v : Option Value) (vm₁ : Vm) (B : Pt), s.WarmedH vm₁ ∧ Stand p l e R s m args below meth c B.U B.locs B.cells B.slots ∧ Post ⟨T.setVm vm₁, locs, cells, slots⟩ (Value.ref b :: argsL).toArray v B ∧
      ∀ target, Steps p.tables e below (B.U.setTop { g with pc := g.pc + 3, stack := v.toList ++ rest }) target → Steps p.tables e below (T.setTop g) target := by
  obtain ⟨mk, methM, hnamed, hmethM, hstM, habM⟩ := Cond.instanceMethod_spec hinst
  obtain ⟨m8, methM', cM, hn8, hmethM', -, -, -, -, -, -, hsigM⟩ := Cond.codeWith_spec hcode
  cases Option.some.inj (hn8.symm.trans hnamed)
  cases hmethM.symm.trans hmethM'
  obtain ⟨c2, r2, m2, q1, q2, q3, q4, kP, hkP, hkPi⟩ := Cond.selects_spec hsel
  cases hcls.symm.trans q1
  cases (State.methodFound?_of_named hnamed hy).symm.trans q2
  cases hnamed.symm.trans q3
  have hselP : selectMethod e.platform s.vm cellB.cls mk = .method mk := by rw [Launch.admits_selectMethod X.admits]; exact q4
  obtain ⟨vm₁, X₁, hstep₁⟩ := X.invokevirtual hexec hown hlink hnamed hmethM hstM hkP hkPi hy (a := b) (cell := cellB) hcell
    (fun z h => by rw [h] at hobj; cases hobj) hselP hmethM habM hkP hkPi (g := g) hg (argsL := argsL) (rest := rest) (hlen _ hsigM) hstack hdg
  obtain ⟨v, B, X', hpost, hsteps⟩ := hK m meth c ⟨T.setVm vm₁, locs, cells, slots⟩ { g with stack := rest } (.invokevirtual index) mk (Value.ref b :: argsL).toArray X₁ hg hsize hdg hW (X₁.named hnamed) (hpre vm₁ X₁.warmed)
  exact ⟨v, vm₁, B, X₁.warmed, X', hpost, fun target h => hstep₁ _ fun acts => by rw [doInvoke_state]; exact hsteps.trans h⟩
abbrev vx_CVW (R : Room) (s : State) (args : Array Value) (own C : String) (index : Nat) (y : MethodName) (bytes : ByteArray) (maxL : Nat) (ret : Option FieldType) (hh : List (Nat × Nat × Nat × Nat)) (ws : List Cond) (rm : Room) (mc ms n : Nat) : Prop :=
  (rm.cells = mc ∧ rm.slots = ms ∧ rm.frames + 1 ≤ R.frames ∧ 8 + (maxL + 11) + rm.locals ≤ R.locals ∧ (∀ w ∈ ws, ∀ (a' : Array Value) (U : State), s.WarmedH U.vm → w.before a' U = true) ∧ Cond.codeWith y bytes maxL ret hh ∈ ws) ∧
  (Cond.codeWith y bytes maxL ret hh).before args s = true ∧ (Cond.initialized y.cls).before args s = true ∧ (y.cls ≠ "java/lang/invoke/MethodHandle" ∧ y.cls ≠ "java/lang/invoke/VarHandle") ∧
  (∀ sig, parseMethodDescriptor y.desc = some sig → n = sig.parameters.length) ∧ (Cond.methodLink own index y).before args s = true ∧ (Cond.instanceMethod y).before args s = true ∧ (Cond.selects C y y).before args s = true
theorem vx_cwVW {own C : String} {index maxL mc ms : Nat} {y : MethodName} {bytes : ByteArray} {ret : Option FieldType} {hh : List (Nat × Nat × Nat × Nat)} {Ts ws ws' : List Cond} {rm : Room} (n : Nat) (ht : ∀ w ∈ Ts, w.before args s = true) (hT : GoodIn Ts (wsV own index C y ws)) (hw : ws = Cond.codeWith y bytes maxL ret hh :: ws') (hrc : rm.cells = mc) (hrs : rm.slots = ms)
    (hd : y.cls = C ∧ y.cls ≠ "java/lang/invoke/MethodHandle" ∧ y.cls ≠ "java/lang/invoke/VarHandle" ∧ (parseMethodDescriptor y.desc).map (fun d => d.parameters.length) = some n) (hR : rm.frames + 1 ≤ R.frames ∧ 8 + (maxL + 11) + rm.locals ≤ R.locals) :
    vx_CVW R s args own C index y bytes maxL ret hh ws rm mc ms n := by
  obtain ⟨hC, hd⟩ := hd
  subst hC
  have ok : ∀ w ∈ wsV own index y.cls y ws, w.before args s = true := fun w h => ht w (hT w h).1
  have hG : GoodIn Ts ws := fun w h => hT w (by unfold wsV; exact List.mem_append_right _ h)
  have hc : Cond.codeWith y bytes maxL ret hh ∈ ws := by rw [hw]; exact List.mem_cons_self
  refine ⟨⟨hrc, hrs, hR.1, hR.2, pay_in ht hG, hc⟩, ht _ (hG _ hc).1, ok _ (by simp [wsV]), ⟨hd.1, hd.2.1⟩, fun sig h => ?_, ok _ (by simp [wsV]), ok _ (by simp [wsV]), ok _ (by simp [wsV])⟩
  have h2 := hd.2.2
  rw [h] at h2
  exact (Option.some.inj h2).symm
theorem vx_runVW {y : MethodName} {bytes cc : ByteArray} {maxL nL mc ms n index : Nat} {ret : Option FieldType} {hh : List (Nat × Nat × Nat × Nat)} {ws : List Cond} {rm : Room} {Pc : Array Value → State → Prop} {Qc : Array Value → State → Outcome → State → Prop} {free : Addr → Prop} {Ts : List Cond} {own C : String} {b : Addr} {As rest : List Value} {g : JFrame}
    (S : CallFix p m c cc nL s args Ts own) (hM : Met l y ws rm Pc Qc mc ms free) (cw : vx_CVW R s args own C index y bytes maxL ret hh ws rm mc ms n) (hp : PreV s H C b Pc As)
    (hg : g.method = m) (hn : As.length = n) (hsize : g.locals.size = nL) (hstack : g.stack = As.reverse ++ .ref b :: rest) (hW : 2 * g.monitorRoom + (rest.map fun v => v.category).sum ≤ 8) (hdg : decode cc g.pc = .ok (.invokevirtual index, 3)) (hf : cells + mc ≤ R.cells ∧ slots + ms ≤ R.slots) :
    va_Run p l e R s m args below meth c H locs cells slots mc ms g rest (Qc (Value.ref b :: As).toArray) free := by
  obtain ⟨⟨hrc, hrs, hfr, hlo, hws, hcw⟩, hcode, hini, hy, hlen, hl, hin, hse⟩ := cw
  have hK : Back l R p e below s args y 3 8 (PreOf R mc ms Pc) (PostOf Qc mc ms free) := va_backW (hh := hh) (bytes := bytes) (maxL := maxL) (ret := ret) hM hp.1 hrc hrs hfr hlo hws hcw (fun a' U hW => word_at hW (Or.inl (by first | rfl | simp [Cond.onTables, Cond.keeps, Cond.steady])) hini)
  obtain ⟨hx, hb, hml, ho, -⟩ := S
  obtain ⟨-, ⟨cellB, hcB, hoB, hclB⟩, hPc⟩ := hp
  intro T hT X
  obtain ⟨v, vm₁, ⟨U', l2, c2, s2⟩, hW₁, X', ⟨g', mk, t, L, e1, e2, hq, h1, hL, h2, h3⟩, st⟩ := vx_callVW X hx (C := C) (hh := hh) (bytes := bytes) (maxL := maxL) (ret := ret) ho hl hin hse hcode hy hK (by rw [hT]; exact hcB) hoB hclB hg (hsize.trans hml.symm) (argsL := As) (rest := rest) (fun sig h => hn.trans (hlen sig h)) hstack hW (by rw [hb]; exact hdg)
    (fun vm₁ hW₁ => ⟨hf.1, hf.2, hPc (T.setVm vm₁) hT hW₁⟩)
  dsimp only [Pt.U, Pt.locs, Pt.cells, Pt.slots] at X' e1 e2 h1 h2 h3 st
  subst h1; subst h2; subst h3
  exact ⟨v, (T.setVm vm₁).calling g' mk (Value.ref b :: As).toArray, t, U', L, hT, X', hL, e1, e2, hq, st⟩
section
variable {y : MethodName} {bytes cc : ByteArray} {maxL nL mc ms n index : Nat} {ret : Option FieldType} {ws : List Cond} {rm : Room} {Pc : Array Value → State → Prop} {Qc : Array Value → State → Outcome → State → Prop} {XC : String → State → State → Prop} {free : Addr → Prop} {Ts : List Cond} {own C : String} {b : Addr} {As rest : List Value} {g : JFrame}
theorem vx_runVX {hh : List (Nat × Nat × Nat × Nat)} (S : CallFix p m c cc nL s args Ts own) (hM : vx_Met l y ws rm Pc Qc XC mc ms free) (cw : vx_CVW R s args own C index y bytes maxL ret hh ws rm mc ms n) (hp : PreV s H C b Pc As)
    (hg : g.method = m) (hn : As.length = n) (hsize : g.locals.size = nL) (hstack : g.stack = As.reverse ++ .ref b :: rest) (hW : 2 * g.monitorRoom + (rest.map fun v => v.category).sum ≤ 8) (hdg : decode cc g.pc = .ok (.invokevirtual index, 3)) (hf : cells + mc ≤ R.cells ∧ slots + ms ≤ R.slots) :
    vx_Run p l e R s m args below meth c H locs cells slots mc ms g rest (Qc (Value.ref b :: As).toArray) XC free := by
  obtain ⟨⟨hrc, hrs, hfr, hlo, hws, hcw⟩, hcode, hini, hy, hlen, hl, hin, hse⟩ := cw
  have hK : vx_Back l R p e below s args y 3 8 (PreOf R mc ms Pc) (PostOf Qc mc ms free) (vx_Post XC mc ms free) := vx_backW (hh := hh) (bytes := bytes) (maxL := maxL) (ret := ret) hM hp.1 hrc hrs hfr hlo hws hcw (fun a' U hW => word_at hW (Or.inl (by first | rfl | simp [Cond.onTables, Cond.keeps, Cond.steady])) hini)
  obtain ⟨hx, hb, hml, ho, -⟩ := S
  obtain ⟨-, ⟨cellB, hcB, hoB, hclB⟩, hPc⟩ := hp
  intro T hT X
  rcases vx_callVX X hx (C := C) (hh := hh) (bytes := bytes) (maxL := maxL) (ret := ret) ho hl hin hse hcode hy hK (by rw [hT]; exact hcB) hoB hclB hg (hsize.trans hml.symm) (argsL := As) (rest := rest) (fun sig h => hn.trans (hlen sig h)) hstack hW (by rw [hb]; exact hdg)
    (fun vm₁ hW₁ => ⟨hf.1, hf.2, hPc (T.setVm vm₁) hT hW₁⟩) with ⟨v, vm₁, ⟨U', l2, c2, s2⟩, hW₁, X', ⟨g', mk, t, L, e1, e2, hq, h1, hL, h2, h3⟩, st⟩ | ⟨q, vm₁, ⟨U', l2, c2, s2⟩, hW₁, X', ⟨g', mk, t, L, E, ce, e1, e2, hq, hce, hcv, hcl, h1, hL, h2, h3⟩, st⟩
  · dsimp only [Pt.U, Pt.locs, Pt.cells, Pt.slots] at X' e1 e2 h1 h2 h3 st
    subst h1; subst h2; subst h3
    exact Or.inl ⟨v, (T.setVm vm₁).calling g' mk (Value.ref b :: As).toArray, t, U', L, hT, X', hL, e1, e2, hq, st⟩
  · dsimp only [Pt.U, Pt.locs, Pt.cells, Pt.slots] at X' e1 e2 h1 h2 h3 st hcl
    subst h1; subst h2; subst h3
    exact Or.inr ⟨q, (T.setVm vm₁).calling g' mk (Value.ref b :: As).toArray, t, U', L, E, ce, hT, X', hL, e1, e2, hq, hce, hcv, vx_cls hW₁ hcl, st⟩
theorem vx_runSX {hh : List (Nat × Nat × Nat × Nat)} (S : CallFix p m c cc nL s args Ts own) (hM : vx_Met l y ws rm Pc Qc XC mc ms free) (cw : vx_CSW R s args own index y bytes maxL ret hh ws rm mc ms n) (hp : PreS s H Pc As)
    (hg : g.method = m) (hn : As.length = n) (hsize : g.locals.size = nL) (hstack : g.stack = As.reverse ++ rest) (hW : 2 * g.monitorRoom + (rest.map fun v => v.category).sum ≤ 8) (hdg : decode cc g.pc = .ok (.invokestatic index, 3)) (hf : cells + mc ≤ R.cells ∧ slots + ms ≤ R.slots) :
    vx_Run p l e R s m args below meth c H locs cells slots mc ms g rest (Qc As.toArray) XC free := by
  obtain ⟨⟨hrc, hrs, hfr, hlo, hws, hcw⟩, hcode, hini, hy, hlen, hl, hstt⟩ := cw
  have hK : vx_Back l R p e below s args y 3 8 (PreOf R mc ms Pc) (PostOf Qc mc ms free) (vx_Post XC mc ms free) := vx_backW (hh := hh) (bytes := bytes) (maxL := maxL) (ret := ret) hM hp.1 hrc hrs hfr hlo hws hcw (fun a' U hW => word_at hW (Or.inl (by first | rfl | simp [Cond.onTables, Cond.keeps, Cond.steady])) hini)
  obtain ⟨hx, hb, hml, ho, -⟩ := S
  intro T hT X
  rcases vx_callSX X hx (hh := hh) (bytes := bytes) (maxL := maxL) (ret := ret) ho hl hstt hini hcode hy hK hg (hsize.trans hml.symm) (argsL := As) (rest := rest) (fun sig h => hn.trans (hlen sig h)) hstack hW (by rw [hb]; exact hdg)
    (fun vm₁ hW₁ => ⟨hf.1, hf.2, hp.2 (T.setVm vm₁) hT hW₁⟩) with ⟨v, vm₁, ⟨U', l2, c2, s2⟩, hW₁, X', ⟨g', mk, t, L, e1, e2, hq, h1, hL, h2, h3⟩, st⟩ | ⟨q, vm₁, ⟨U', l2, c2, s2⟩, hW₁, X', ⟨g', mk, t, L, E, ce, e1, e2, hq, hce, hcv, hcl, h1, hL, h2, h3⟩, st⟩
  · dsimp only [Pt.U, Pt.locs, Pt.cells, Pt.slots] at X' e1 e2 h1 h2 h3 st
    subst h1; subst h2; subst h3
    exact Or.inl ⟨v, (T.setVm vm₁).calling g' mk As.toArray, t, U', L, hT, X', hL, e1, e2, hq, st⟩
  · dsimp only [Pt.U, Pt.locs, Pt.cells, Pt.slots] at X' e1 e2 h1 h2 h3 st hcl
    subst h1; subst h2; subst h3
    exact Or.inr ⟨q, (T.setVm vm₁).calling g' mk As.toArray, t, U', L, E, ce, hT, X', hL, e1, e2, hq, hce, hcv, vx_cls hW₁ hcl, st⟩
end
end VXH
theorem vx_ofWH {l : Launch} {y : MethodName} {ws ws' : List Cond} {rm : Room} {Pc : Array Value → State → Prop} {Qc : Array Value → State → Outcome → State → Prop} {XC : String → State → State → Prop} {mc ms : Nat} {free : Addr → Prop} {cc : ByteArray} {maxL : Nat} {ret : Option FieldType} {hh : List (Nat × Nat × Nat × Nat)}
    (hy : plainName y.cls = true) (hw : ws = Cond.codeWith y cc maxL ret hh :: ws')
    (body : ∀ p e s m args below meth c s₁, BodyLoose p l y (headSpec ws rm) cc maxL ret e s m args below meth c s₁ → c.maxLocals = maxL → Pc args s →
      W p l e (headSpec ws rm).room s m args below meth c s.heap [] 0 0 (vx_MQ below Qc XC args s mc ms free) (entryFrame m args maxL)) : vx_Met l y ws rm Pc Qc XC mc ms free := by
  refine MetFree.of_bodyS (code := cc) (maxLocals := maxL) (ret := ret) hy ?_ ?_
  · intro args s m h hn
    obtain ⟨m9, meth, c, hn9, h1, h2, h3, h4, -, h5, h6, -⟩ := Cond.codeWith_spec (atoms_spec (ws := ws) h _ (by rw [hw]; exact List.mem_cons_self))
    cases hn.symm.trans hn9
    exact ⟨meth, c, h1, h2, h3, h4, h5, h6⟩
  · intro p e s m args below meth c s₁ B hml hP _
    have hh0 : s₁.heap = s.heap := by rw [B.state]; rfl
    obtain ⟨t, a1, o, b1, b2, b3⟩ := body p e s m args below meth c s₁ B hml hP s₁ hh0 (Stand.of_body B)
    exact ⟨t, o, a1, b1, b2, b3⟩
/-! ===== END ===== -/
end
section
/-! ===== BEGIN printed: names, fields, word lists, decode rows ===== -/
def RX0 : String := "MarketAwnings$Awning"
def TX0 : u_T := fun k => match k with
  | 0 => ("MarketAwnings$Awning", "x", "I", false)
  | 1 => ("MarketAwnings$Awning", "y", "I", false)
  | 2 => ("MarketAwnings$Awning", "w", "I", true)
  | 3 => ("MarketAwnings$Awning", "h", "I", true)
  | 4 => ("MarketAwnings$Awning", "level", "I", true)
  | 5 => ("MarketAwnings$Awning", "side", "I", true)
  | 6 => ("MarketAwnings$Awning", "out", "Z", false)
  | _ => ("MarketAwnings$Awning", "dripped", "I", false)
def tyX0 : Nat → FieldType := fun k => match k with
  | 0 => .int
  | 1 => .int
  | 2 => .int
  | 3 => .int
  | 4 => .int
  | 5 => .int
  | 6 => .boolean
  | _ => .int
abbrev wsX00 : List Cond := u_ws RX0 TX0 8
theorem nmX0 : ∀ a, a < 8 → ∀ b, b < 8 → a ≠ b → (TX0 a).2.1 ≠ (TX0 b).2.1 := by decide +kernel
theorem tyX0_ok : ∀ k, k < 8 → parseFieldDescriptor (TX0 k).2.2.1 = some (tyX0 k) := by decide +kernel
abbrev cX0_init : ByteArray := prog_2_method_1_code
def yX0_init : MethodName := ⟨RX0, "<init>", "(IIIIII)V"⟩
abbrev cX0_covers : ByteArray := prog_2_method_2_code
def yX0_covers : MethodName := ⟨RX0, "covers", "(II)Z"⟩
abbrev cX0_dripsAlongRows : ByteArray := prog_2_method_3_code
def yX0_dripsAlongRows : MethodName := ⟨RX0, "dripsAlongRows", "()Z"⟩
abbrev cX0_cellsBeyond : ByteArray := prog_2_method_4_code
def yX0_cellsBeyond : MethodName := ⟨RX0, "cellsBeyond", "()I"⟩
abbrev cX0_columnBeyond : ByteArray := prog_2_method_5_code
def yX0_columnBeyond : MethodName := ⟨RX0, "columnBeyond", "(I)I"⟩
abbrev cX0_rowBeyond : ByteArray := prog_2_method_6_code
def yX0_rowBeyond : MethodName := ⟨RX0, "rowBeyond", "(I)I"⟩
def RX1 : String := "MarketAwnings$Canopy"
def TX1 : u_T := fun k => match k with
  | 0 => ("MarketAwnings$Canopy", "awnings", "Ljava/util/ArrayList;", true)
  | 1 => ("MarketAwnings$Canopy", "layers", "[I", true)
  | 2 => ("MarketAwnings$Canopy", "reached", "[I", true)
  | 3 => ("MarketAwnings$Canopy", "queue", "[I", true)
  | _ => ("MarketAwnings$Canopy", "queued", "I", false)
def tyX1 : Nat → FieldType := fun k => match k with
  | 0 => .object "java/util/ArrayList"
  | 1 => .array .int
  | 2 => .array .int
  | 3 => .array .int
  | _ => .int
abbrev wsX10 : List Cond := u_ws RX1 TX1 5
theorem nmX1 : ∀ a, a < 5 → ∀ b, b < 5 → a ≠ b → (TX1 a).2.1 ≠ (TX1 b).2.1 := by decide +kernel
theorem tyX1_ok : ∀ k, k < 5 → parseFieldDescriptor (TX1 k).2.2.1 = some (tyX1 k) := by decide +kernel
abbrev cX1_init : ByteArray := prog_3_method_1_code
def yX1_init : MethodName := ⟨RX1, "<init>", "()V"⟩
abbrev cX1_size : ByteArray := prog_3_method_2_code
def yX1_size : MethodName := ⟨RX1, "size", "()I"⟩
abbrev cX1_sizeOut : ByteArray := prog_3_method_3_code
def yX1_sizeOut : MethodName := ⟨RX1, "sizeOut", "()I"⟩
abbrev cX1_numbered : ByteArray := prog_3_method_4_code
def yX1_numbered : MethodName := ⟨RX1, "numbered", "(I)LMarketAwnings$Awning;"⟩
abbrev cX1_append : ByteArray := prog_3_method_5_code
def yX1_append : MethodName := ⟨RX1, "append", "(LMarketAwnings$Awning;)V"⟩
abbrev cX1_drop : ByteArray := prog_3_method_6_code
def yX1_drop : MethodName := ⟨RX1, "drop", "(I)V"⟩
abbrev cX1_layOut : ByteArray := prog_3_method_7_code
def yX1_layOut : MethodName := ⟨RX1, "layOut", "()V"⟩
abbrev cX1_layOver : ByteArray := prog_3_method_8_code
def yX1_layOver : MethodName := ⟨RX1, "layOver", "(LMarketAwnings$Awning;)V"⟩
abbrev cX1_layersAt : ByteArray := prog_3_method_9_code
def yX1_layersAt : MethodName := ⟨RX1, "layersAt", "(II)I"⟩
abbrev cX1_highestBelow : ByteArray := prog_3_method_10_code
def yX1_highestBelow : MethodName := ⟨RX1, "highestBelow", "(III)I"⟩
abbrev cX1_covered : ByteArray := prog_3_method_11_code
def yX1_covered : MethodName := ⟨RX1, "covered", "()I"⟩
abbrev cX1_cellsWithLayers : ByteArray := prog_3_method_12_code
def yX1_cellsWithLayers : MethodName := ⟨RX1, "cellsWithLayers", "(I)I"⟩
abbrev cX1_coveredOnlyBy : ByteArray := prog_3_method_13_code
def yX1_coveredOnlyBy : MethodName := ⟨RX1, "coveredOnlyBy", "(LMarketAwnings$Awning;)I"⟩
abbrev cX1_notCoveredIn : ByteArray := prog_3_method_14_code
def yX1_notCoveredIn : MethodName := ⟨RX1, "notCoveredIn", "(IIII)I"⟩
abbrev cX1_outline : ByteArray := prog_3_method_15_code
def yX1_outline : MethodName := ⟨RX1, "outline", "()I"⟩
abbrev cX1_openSides : ByteArray := prog_3_method_16_code
def yX1_openSides : MethodName := ⟨RX1, "openSides", "(II)I"⟩
abbrev cX1_openAt : ByteArray := prog_3_method_17_code
def yX1_openAt : MethodName := ⟨RX1, "openAt", "(II)I"⟩
abbrev cX1_parts : ByteArray := prog_3_method_18_code
def yX1_parts : MethodName := ⟨RX1, "parts", "()I"⟩
abbrev cX1_reachAllFromQueue : ByteArray := prog_3_method_19_code
def yX1_reachAllFromQueue : MethodName := ⟨RX1, "reachAllFromQueue", "()V"⟩
abbrev cX1_reach : ByteArray := prog_3_method_20_code
def yX1_reach : MethodName := ⟨RX1, "reach", "(II)V"⟩
abbrev cX1_coveredInColumn : ByteArray := prog_3_method_21_code
def yX1_coveredInColumn : MethodName := ⟨RX1, "coveredInColumn", "(I)I"⟩
abbrev cX1_runsInColumn : ByteArray := prog_3_method_22_code
def yX1_runsInColumn : MethodName := ⟨RX1, "runsInColumn", "(I)I"⟩
abbrev cX1_longestRunInColumn : ByteArray := prog_3_method_23_code
def yX1_longestRunInColumn : MethodName := ⟨RX1, "longestRunInColumn", "(I)I"⟩
abbrev cX1_mostLayersInColumn : ByteArray := prog_3_method_24_code
def yX1_mostLayersInColumn : MethodName := ⟨RX1, "mostLayersInColumn", "(I)I"⟩
def RX2 : String := "MarketAwnings$Shower"
def TX2 : u_T := fun k => match k with
  | 0 => ("MarketAwnings$Shower", "canopy", "LMarketAwnings$Canopy;", true)
  | 1 => ("MarketAwnings$Shower", "fallen", "[I", true)
  | 2 => ("MarketAwnings$Shower", "caught", "[I", true)
  | 3 => ("MarketAwnings$Shower", "onGround", "I", false)
  | _ => ("MarketAwnings$Shower", "ranOff", "I", false)
def tyX2 : Nat → FieldType := fun k => match k with
  | 0 => .object "MarketAwnings$Canopy"
  | 1 => .array .int
  | 2 => .array .int
  | 3 => .int
  | _ => .int
abbrev wsX20 : List Cond := u_ws RX2 TX2 5
theorem nmX2 : ∀ a, a < 5 → ∀ b, b < 5 → a ≠ b → (TX2 a).2.1 ≠ (TX2 b).2.1 := by decide +kernel
theorem tyX2_ok : ∀ k, k < 5 → parseFieldDescriptor (TX2 k).2.2.1 = some (tyX2 k) := by decide +kernel
abbrev cX2_init : ByteArray := prog_4_method_1_code
def yX2_init : MethodName := ⟨RX2, "<init>", "(LMarketAwnings$Canopy;)V"⟩
abbrev cX2_pour : ByteArray := prog_4_method_2_code
def yX2_pour : MethodName := ⟨RX2, "pour", "(I)V"⟩
abbrev cX2_fallenAt : ByteArray := prog_4_method_3_code
def yX2_fallenAt : MethodName := ⟨RX2, "fallenAt", "(II)I"⟩
abbrev cX2_caughtBy : ByteArray := prog_4_method_4_code
def yX2_caughtBy : MethodName := ⟨RX2, "caughtBy", "(I)I"⟩
abbrev cX2_dry : ByteArray := prog_4_method_5_code
def yX2_dry : MethodName := ⟨RX2, "dry", "()V"⟩
abbrev cX2_dripFromLevel : ByteArray := prog_4_method_6_code
def yX2_dripFromLevel : MethodName := ⟨RX2, "dripFromLevel", "(I)V"⟩
abbrev cX2_drip : ByteArray := prog_4_method_7_code
def yX2_drip : MethodName := ⟨RX2, "drip", "(LMarketAwnings$Awning;I)V"⟩
abbrev cX2_land : ByteArray := prog_4_method_8_code
def yX2_land : MethodName := ⟨RX2, "land", "(IIII)V"⟩
def RX3 : String := "MarketAwnings$Stall"
def TX3 : u_T := fun k => match k with
  | 0 => ("MarketAwnings$Stall", "x", "I", true)
  | 1 => ("MarketAwnings$Stall", "y", "I", true)
  | _ => ("MarketAwnings$Stall", "groundBefore", "I", true)
def tyX3 : Nat → FieldType := fun k => match k with
  | 0 => .int
  | 1 => .int
  | _ => .int
abbrev wsX30 : List Cond := u_ws RX3 TX3 3
theorem nmX3 : ∀ a, a < 3 → ∀ b, b < 3 → a ≠ b → (TX3 a).2.1 ≠ (TX3 b).2.1 := by decide +kernel
theorem tyX3_ok : ∀ k, k < 3 → parseFieldDescriptor (TX3 k).2.2.1 = some (tyX3 k) := by decide +kernel
abbrev cX3_init : ByteArray := prog_5_method_1_code
def yX3_init : MethodName := ⟨RX3, "<init>", "(III)V"⟩
def RX4 : String := "MarketAwnings"
def TX4 : u_T := fun k => match k with
  | 0 => ("MarketAwnings", "canopy", "LMarketAwnings$Canopy;", true)
  | 1 => ("MarketAwnings", "shower", "LMarketAwnings$Shower;", true)
  | 2 => ("MarketAwnings", "stalls", "Ljava/util/ArrayList;", true)
  | 3 => ("MarketAwnings", "ground", "[I", true)
  | 4 => ("MarketAwnings", "hours", "I", false)
  | 5 => ("MarketAwnings", "groundDrops", "I", false)
  | _ => ("MarketAwnings", "offDrops", "I", false)
def tyX4 : Nat → FieldType := fun k => match k with
  | 0 => .object "MarketAwnings$Canopy"
  | 1 => .object "MarketAwnings$Shower"
  | 2 => .object "java/util/ArrayList"
  | 3 => .array .int
  | 4 => .int
  | 5 => .int
  | _ => .int
abbrev wsX40 : List Cond := u_ws RX4 TX4 7
theorem nmX4 : ∀ a, a < 7 → ∀ b, b < 7 → a ≠ b → (TX4 a).2.1 ≠ (TX4 b).2.1 := by decide +kernel
theorem tyX4_ok : ∀ k, k < 7 → parseFieldDescriptor (TX4 k).2.2.1 = some (tyX4 k) := by decide +kernel
abbrev cX4_init : ByteArray := prog_1_method_1_code
def yX4_init : MethodName := ⟨RX4, "<init>", "()V"⟩
abbrev cX4_hang : ByteArray := prog_1_method_2_code
def yX4_hang : MethodName := ⟨RX4, "hang", "(IIIIII)I"⟩
abbrev cX4_roll : ByteArray := prog_1_method_3_code
def yX4_roll : MethodName := ⟨RX4, "roll", "(I)Z"⟩
abbrev cX4_move : ByteArray := prog_1_method_4_code
def yX4_move : MethodName := ⟨RX4, "move", "(III)I"⟩
abbrev cX4_take : ByteArray := prog_1_method_5_code
def yX4_take : MethodName := ⟨RX4, "take", "(I)I"⟩
abbrev cX4_stall : ByteArray := prog_1_method_6_code
def yX4_stall : MethodName := ⟨RX4, "stall", "(II)I"⟩
abbrev cX4_rain : ByteArray := prog_1_method_7_code
def yX4_rain : MethodName := ⟨RX4, "rain", "(I)I"⟩
abbrev cX4_about : ByteArray := prog_1_method_8_code
def yX4_about : MethodName := ⟨RX4, "about", "(II)I"⟩
abbrev cX4_cell : ByteArray := prog_1_method_9_code
def yX4_cell : MethodName := ⟨RX4, "cell", "(III)I"⟩
abbrev cX4_cord : ByteArray := prog_1_method_10_code
def yX4_cord : MethodName := ⟨RX4, "cord", "(II)I"⟩
abbrev cX4_told : ByteArray := prog_1_method_11_code
def yX4_told : MethodName := ⟨RX4, "told", "(II)I"⟩
abbrev cX4_share : ByteArray := prog_1_method_12_code
def yX4_share : MethodName := ⟨RX4, "share", "(II)I"⟩
abbrev cX4_count : ByteArray := prog_1_method_13_code
def yX4_count : MethodName := ⟨RX4, "count", "(I)I"⟩
abbrev cX4_would : ByteArray := prog_1_method_14_code
def yX4_would : MethodName := ⟨RX4, "would", "(II)I"⟩
abbrev cX4_best : ByteArray := prog_1_method_15_code
def yX4_best : MethodName := ⟨RX4, "best", "(III)I"⟩
abbrev cX4_advise : ByteArray := prog_1_method_16_code
def yX4_advise : MethodName := ⟨RX4, "advise", "()I"⟩
abbrev cX4_mean : ByteArray := prog_1_method_17_code
def yX4_mean : MethodName := ⟨RX4, "mean", "()D"⟩
abbrev cX4_digest : ByteArray := prog_1_method_18_code
def yX4_digest : MethodName := ⟨RX4, "digest", "()J"⟩
abbrev cX4_digestOfColumn : ByteArray := prog_1_method_19_code
def yX4_digestOfColumn : MethodName := ⟨RX4, "digestOfColumn", "(JI)J"⟩
abbrev cX4_numberedStall : ByteArray := prog_1_method_20_code
def yX4_numberedStall : MethodName := ⟨RX4, "numberedStall", "(I)LMarketAwnings$Stall;"⟩
abbrev cX4_hasStallAt : ByteArray := prog_1_method_21_code
def yX4_hasStallAt : MethodName := ⟨RX4, "hasStallAt", "(II)Z"⟩
abbrev cX4_stallsNotCovered : ByteArray := prog_1_method_22_code
def yX4_stallsNotCovered : MethodName := ⟨RX4, "stallsNotCovered", "()I"⟩
abbrev cX4_gotBy : ByteArray := prog_1_method_23_code
def yX4_gotBy : MethodName := ⟨RX4, "gotBy", "(LMarketAwnings$Stall;)I"⟩
abbrev cX4_groundAt : ByteArray := prog_1_method_24_code
def yX4_groundAt : MethodName := ⟨RX4, "groundAt", "(II)I"⟩
abbrev cX4_isCell : ByteArray := prog_1_method_25_code
def yX4_isCell : MethodName := ⟨RX4, "isCell", "(II)Z"⟩
abbrev cX4_requireCell : ByteArray := prog_1_method_26_code
def yX4_requireCell : MethodName := ⟨RX4, "requireCell", "(II)V"⟩
abbrev cX4_requireExtent : ByteArray := prog_1_method_27_code
def yX4_requireExtent : MethodName := ⟨RX4, "requireExtent", "(II)V"⟩
abbrev cX4_requireRoomInSquare : ByteArray := prog_1_method_28_code
def yX4_requireRoomInSquare : MethodName := ⟨RX4, "requireRoomInSquare", "(IIII)V"⟩
abbrev cX4_requireDrops : ByteArray := prog_1_method_29_code
def yX4_requireDrops : MethodName := ⟨RX4, "requireDrops", "(I)V"⟩
abbrev cX4_requireWhat : ByteArray := prog_1_method_30_code
def yX4_requireWhat : MethodName := ⟨RX4, "requireWhat", "(II)V"⟩
def RX5 : String := "MarketAwningsModel"
def TX5 : u_T := fun k => match k with
  | 0 => ("MarketAwningsModel", "thrown", "I", false)
  | 1 => ("MarketAwningsModel", "awnings", "I", false)
  | 2 => ("MarketAwningsModel", "sheet", "[I", true)
  | 3 => ("MarketAwningsModel", "stalls", "I", false)
  | 4 => ("MarketAwningsModel", "at", "[I", true)
  | 5 => ("MarketAwningsModel", "had", "[I", true)
  | 6 => ("MarketAwningsModel", "ground", "[I", true)
  | 7 => ("MarketAwningsModel", "hours", "I", false)
  | 8 => ("MarketAwningsModel", "ranOff", "I", false)
  | 9 => ("MarketAwningsModel", "fell", "[I", true)
  | _ => ("MarketAwningsModel", "load", "[I", true)
def tyX5 : Nat → FieldType := fun k => match k with
  | 0 => .int
  | 1 => .int
  | 2 => .array .int
  | 3 => .int
  | 4 => .array .int
  | 5 => .array .int
  | 6 => .array .int
  | 7 => .int
  | 8 => .int
  | 9 => .array .int
  | _ => .array .int
abbrev wsX50 : List Cond := u_ws RX5 TX5 11
theorem nmX5 : ∀ a, a < 11 → ∀ b, b < 11 → a ≠ b → (TX5 a).2.1 ≠ (TX5 b).2.1 := by decide +kernel
theorem tyX5_ok : ∀ k, k < 11 → parseFieldDescriptor (TX5 k).2.2.1 = some (tyX5 k) := by decide +kernel
abbrev cX5_init : ByteArray := prog_7_method_1_code
def yX5_init : MethodName := ⟨RX5, "<init>", "()V"⟩
abbrev cX5_thrown : ByteArray := prog_7_method_2_code
def yX5_thrown : MethodName := ⟨RX5, "thrown", "()I"⟩
abbrev cX5_no : ByteArray := prog_7_method_3_code
def yX5_no : MethodName := ⟨RX5, "no", "(I)I"⟩
abbrev cX5_isIn : ByteArray := prog_7_method_4_code
def yX5_isIn : MethodName := ⟨RX5, "isIn", "(III)Z"⟩
abbrev cX5_isCell : ByteArray := prog_7_method_5_code
def yX5_isCell : MethodName := ⟨RX5, "isCell", "(II)Z"⟩
abbrev cX5_fits : ByteArray := prog_7_method_6_code
def yX5_fits : MethodName := ⟨RX5, "fits", "(IIII)Z"⟩
abbrev cX5_isAwning : ByteArray := prog_7_method_7_code
def yX5_isAwning : MethodName := ⟨RX5, "isAwning", "(I)Z"⟩
abbrev cX5_isStall : ByteArray := prog_7_method_8_code
def yX5_isStall : MethodName := ⟨RX5, "isStall", "(I)Z"⟩
abbrev cX5_of : ByteArray := prog_7_method_9_code
def yX5_of : MethodName := ⟨RX5, "of", "(II)I"⟩
abbrev cX5_isOut : ByteArray := prog_7_method_10_code
def yX5_isOut : MethodName := ⟨RX5, "isOut", "(I)Z"⟩
abbrev cX5_many : ByteArray := prog_7_method_11_code
def yX5_many : MethodName := ⟨RX5, "many", "(I)I"⟩
abbrev cX5_rows : ByteArray := prog_7_method_12_code
def yX5_rows : MethodName := ⟨RX5, "rows", "(II)I"⟩
abbrev cX5_bits : ByteArray := prog_7_method_13_code
def yX5_bits : MethodName := ⟨RX5, "bits", "(II)I"⟩
abbrev cX5_covered : ByteArray := prog_7_method_14_code
def yX5_covered : MethodName := ⟨RX5, "covered", "(II)I"⟩
abbrev cX5_covered_ : ByteArray := prog_7_method_15_code
def yX5_covered_ : MethodName := ⟨RX5, "covered", "(I)I"⟩
abbrev cX5_lying : ByteArray := prog_7_method_16_code
def yX5_lying : MethodName := ⟨RX5, "lying", "(II)I"⟩
abbrev cX5_below : ByteArray := prog_7_method_17_code
def yX5_below : MethodName := ⟨RX5, "below", "(I)I"⟩
abbrev cX5_isHigher : ByteArray := prog_7_method_18_code
def yX5_isHigher : MethodName := ⟨RX5, "isHigher", "(II)Z"⟩
abbrev cX5_highest : ByteArray := prog_7_method_19_code
def yX5_highest : MethodName := ⟨RX5, "highest", "(III)I"⟩
abbrev cX5_fall : ByteArray := prog_7_method_20_code
def yX5_fall : MethodName := ⟨RX5, "fall", "(IIII)V"⟩
abbrev cX5_drip : ByteArray := prog_7_method_21_code
def yX5_drip : MethodName := ⟨RX5, "drip", "(I)I"⟩
abbrev cX5_pour : ByteArray := prog_7_method_22_code
def yX5_pour : MethodName := ⟨RX5, "pour", "(I)I"⟩
abbrev cX5_hang : ByteArray := prog_7_method_23_code
def yX5_hang : MethodName := ⟨RX5, "hang", "(IIIIII)I"⟩
abbrev cX5_roll : ByteArray := prog_7_method_24_code
def yX5_roll : MethodName := ⟨RX5, "roll", "(I)Z"⟩
abbrev cX5_move : ByteArray := prog_7_method_25_code
def yX5_move : MethodName := ⟨RX5, "move", "(III)I"⟩
abbrev cX5_take : ByteArray := prog_7_method_26_code
def yX5_take : MethodName := ⟨RX5, "take", "(I)I"⟩
abbrev cX5_stall : ByteArray := prog_7_method_27_code
def yX5_stall : MethodName := ⟨RX5, "stall", "(II)I"⟩
abbrev cX5_rain : ByteArray := prog_7_method_28_code
def yX5_rain : MethodName := ⟨RX5, "rain", "(I)I"⟩
abbrev cX5_own : ByteArray := prog_7_method_29_code
def yX5_own : MethodName := ⟨RX5, "own", "(I)I"⟩
abbrev cX5_awningTold : ByteArray := prog_7_method_30_code
def yX5_awningTold : MethodName := ⟨RX5, "awningTold", "(II)I"⟩
abbrev cX5_about : ByteArray := prog_7_method_31_code
def yX5_about : MethodName := ⟨RX5, "about", "(II)I"⟩
abbrev cX5_cellTold : ByteArray := prog_7_method_32_code
def yX5_cellTold : MethodName := ⟨RX5, "cellTold", "(III)I"⟩
abbrev cX5_cell : ByteArray := prog_7_method_33_code
def yX5_cell : MethodName := ⟨RX5, "cell", "(III)I"⟩
abbrev cX5_longest : ByteArray := prog_7_method_34_code
def yX5_longest : MethodName := ⟨RX5, "longest", "(I)I"⟩
abbrev cX5_deepest : ByteArray := prog_7_method_35_code
def yX5_deepest : MethodName := ⟨RX5, "deepest", "(I)I"⟩
abbrev cX5_cordTold : ByteArray := prog_7_method_36_code
def yX5_cordTold : MethodName := ⟨RX5, "cordTold", "(II)I"⟩
abbrev cX5_cord : ByteArray := prog_7_method_37_code
def yX5_cord : MethodName := ⟨RX5, "cord", "(II)I"⟩
abbrev cX5_got : ByteArray := prog_7_method_38_code
def yX5_got : MethodName := ⟨RX5, "got", "(I)I"⟩
abbrev cX5_stallTold : ByteArray := prog_7_method_39_code
def yX5_stallTold : MethodName := ⟨RX5, "stallTold", "(II)I"⟩
abbrev cX5_told : ByteArray := prog_7_method_40_code
def yX5_told : MethodName := ⟨RX5, "told", "(II)I"⟩
abbrev cX5_share : ByteArray := prog_7_method_41_code
def yX5_share : MethodName := ⟨RX5, "share", "(II)I"⟩
abbrev cX5_outline : ByteArray := prog_7_method_42_code
def yX5_outline : MethodName := ⟨RX5, "outline", "()I"⟩
abbrev cX5_parts : ByteArray := prog_7_method_43_code
def yX5_parts : MethodName := ⟨RX5, "parts", "()I"⟩
abbrev cX5_spreads : ByteArray := prog_7_method_44_code
def yX5_spreads : MethodName := ⟨RX5, "spreads", "([I[I)Z"⟩
abbrev cX5_sumOf : ByteArray := prog_7_method_45_code
def yX5_sumOf : MethodName := ⟨RX5, "sumOf", "(I)I"⟩
abbrev cX5_out : ByteArray := prog_7_method_46_code
def yX5_out : MethodName := ⟨RX5, "out", "()I"⟩
abbrev cX5_open : ByteArray := prog_7_method_47_code
def yX5_open : MethodName := ⟨RX5, "open", "()I"⟩
abbrev cX5_counted : ByteArray := prog_7_method_48_code
def yX5_counted : MethodName := ⟨RX5, "counted", "(I)I"⟩
abbrev cX5_count : ByteArray := prog_7_method_49_code
def yX5_count : MethodName := ⟨RX5, "count", "(I)I"⟩
abbrev cX5_would : ByteArray := prog_7_method_50_code
def yX5_would : MethodName := ⟨RX5, "would", "(II)I"⟩
abbrev cX5_best : ByteArray := prog_7_method_51_code
def yX5_best : MethodName := ⟨RX5, "best", "(III)I"⟩
abbrev cX5_advise : ByteArray := prog_7_method_52_code
def yX5_advise : MethodName := ⟨RX5, "advise", "()I"⟩
abbrev cX5_mean : ByteArray := prog_7_method_53_code
def yX5_mean : MethodName := ⟨RX5, "mean", "()D"⟩
abbrev cX5_digest : ByteArray := prog_7_method_54_code
def yX5_digest : MethodName := ⟨RX5, "digest", "()J"⟩
def RJx145de : String := "java/io/Serializable"
def TJx145de : u_T := fun k => match k with
  | _ => ("", "", "", false)
def tyJx145de : Nat → FieldType := fun k => match k with
  | _ => .int
abbrev wsJx145de0 : List Cond := u_ws RJx145de TJx145de 0
theorem nmJx145de : ∀ a, a < 0 → ∀ b, b < 0 → a ≠ b → (TJx145de a).2.1 ≠ (TJx145de b).2.1 := by decide +kernel
theorem tyJx145de_ok : ∀ k, k < 0 → parseFieldDescriptor (TJx145de k).2.2.1 = some (tyJx145de k) := by decide +kernel
def RJx8e188 : String := "java/lang/Cloneable"
def TJx8e188 : u_T := fun k => match k with
  | _ => ("", "", "", false)
def tyJx8e188 : Nat → FieldType := fun k => match k with
  | _ => .int
abbrev wsJx8e1880 : List Cond := u_ws RJx8e188 TJx8e188 0
theorem nmJx8e188 : ∀ a, a < 0 → ∀ b, b < 0 → a ≠ b → (TJx8e188 a).2.1 ≠ (TJx8e188 b).2.1 := by decide +kernel
theorem tyJx8e188_ok : ∀ k, k < 0 → parseFieldDescriptor (TJx8e188 k).2.2.1 = some (tyJx8e188 k) := by decide +kernel
def RJxab1ab : String := "java/lang/Iterable"
def TJxab1ab : u_T := fun k => match k with
  | _ => ("", "", "", false)
def tyJxab1ab : Nat → FieldType := fun k => match k with
  | _ => .int
abbrev wsJxab1ab0 : List Cond := u_ws RJxab1ab TJxab1ab 0
theorem nmJxab1ab : ∀ a, a < 0 → ∀ b, b < 0 → a ≠ b → (TJxab1ab a).2.1 ≠ (TJxab1ab b).2.1 := by decide +kernel
theorem tyJxab1ab_ok : ∀ k, k < 0 → parseFieldDescriptor (TJxab1ab k).2.2.1 = some (tyJxab1ab k) := by decide +kernel
def RJ9 : String := "java/lang/Math"
def TJ9 : u_T := fun k => match k with
  | _ => ("", "", "", false)
def tyJ9 : Nat → FieldType := fun k => match k with
  | _ => .int
abbrev wsJ90 : List Cond := u_ws RJ9 TJ9 0
theorem nmJ9 : ∀ a, a < 0 → ∀ b, b < 0 → a ≠ b → (TJ9 a).2.1 ≠ (TJ9 b).2.1 := by decide +kernel
theorem tyJ9_ok : ∀ k, k < 0 → parseFieldDescriptor (TJ9 k).2.2.1 = some (tyJ9 k) := by decide +kernel
abbrev cJ9_max_7cf53 : ByteArray := prog_15_method_65_code
def yJ9_max_7cf53 : MethodName := ⟨RJ9, "max", "(II)I"⟩
abbrev cJ9_min_7cf53 : ByteArray := prog_15_method_69_code
def yJ9_min_7cf53 : MethodName := ⟨RJ9, "min", "(II)I"⟩
def RJ0 : String := "java/lang/String"
def TJ0 : u_T := fun k => match k with
  | _ => ("", "", "", false)
def tyJ0 : Nat → FieldType := fun k => match k with
  | _ => .int
abbrev wsJ00 : List Cond := u_ws RJ0 TJ0 0
theorem nmJ0 : ∀ a, a < 0 → ∀ b, b < 0 → a ≠ b → (TJ0 a).2.1 ≠ (TJ0 b).2.1 := by decide +kernel
theorem tyJ0_ok : ∀ k, k < 0 → parseFieldDescriptor (TJ0 k).2.2.1 = some (tyJ0 k) := by decide +kernel
def RJ10 : String := "java/lang/System"
def TJ10 : u_T := fun k => match k with
  | _ => ("", "", "", false)
def tyJ10 : Nat → FieldType := fun k => match k with
  | _ => .int
abbrev wsJ100 : List Cond := u_ws RJ10 TJ10 0
theorem nmJ10 : ∀ a, a < 0 → ∀ b, b < 0 → a ≠ b → (TJ10 a).2.1 ≠ (TJ10 b).2.1 := by decide +kernel
theorem tyJ10_ok : ∀ k, k < 0 → parseFieldDescriptor (TJ10 k).2.2.1 = some (tyJ10 k) := by decide +kernel
def RJxa1e45 : String := "java/util/AbstractCollection"
def TJxa1e45 : u_T := fun k => match k with
  | _ => ("", "", "", false)
def tyJxa1e45 : Nat → FieldType := fun k => match k with
  | _ => .int
abbrev wsJxa1e450 : List Cond := u_ws RJxa1e45 TJxa1e45 0
theorem nmJxa1e45 : ∀ a, a < 0 → ∀ b, b < 0 → a ≠ b → (TJxa1e45 a).2.1 ≠ (TJxa1e45 b).2.1 := by decide +kernel
theorem tyJxa1e45_ok : ∀ k, k < 0 → parseFieldDescriptor (TJxa1e45 k).2.2.1 = some (tyJxa1e45 k) := by decide +kernel
abbrev cJxa1e45_init_da8c8 : ByteArray := prog_20_method_1_code
def yJxa1e45_init_da8c8 : MethodName := ⟨RJxa1e45, "<init>", "()V"⟩
def RJxc12de : String := "java/util/AbstractList"
def TJxc12de : u_T := fun k => match k with
  | _ => ("", "", "", false)
def tyJxc12de : Nat → FieldType := fun k => match k with
  | _ => .int
abbrev wsJxc12de0 : List Cond := u_ws RJxc12de TJxc12de 0
theorem nmJxc12de : ∀ a, a < 0 → ∀ b, b < 0 → a ≠ b → (TJxc12de a).2.1 ≠ (TJxc12de b).2.1 := by decide +kernel
theorem tyJxc12de_ok : ∀ k, k < 0 → parseFieldDescriptor (TJxc12de k).2.2.1 = some (tyJxc12de k) := by decide +kernel
abbrev cJxc12de_init_da8c8 : ByteArray := prog_21_method_1_code
def yJxc12de_init_da8c8 : MethodName := ⟨RJxc12de, "<init>", "()V"⟩
def RJx4a65c : String := "java/util/ArrayList"
def TJx4a65c : u_T := fun k => match k with
  | 0 => ("java/util/AbstractList", "modCount", "I", false)
  | 1 => ("java/util/ArrayList", "elementData", "[Ljava/lang/Object;", false)
  | _ => ("java/util/ArrayList", "size", "I", false)
def tyJx4a65c : Nat → FieldType := fun k => match k with
  | 0 => .int
  | 1 => .array (.object "java/lang/Object")
  | _ => .int
abbrev wsJx4a65c0 : List Cond := u_ws RJx4a65c TJx4a65c 3
theorem nmJx4a65c : ∀ a, a < 3 → ∀ b, b < 3 → a ≠ b → (TJx4a65c a).2.1 ≠ (TJx4a65c b).2.1 := by decide +kernel
theorem tyJx4a65c_ok : ∀ k, k < 3 → parseFieldDescriptor (TJx4a65c k).2.2.1 = some (tyJx4a65c k) := by decide +kernel
abbrev cJx4a65c_init_da8c8 : ByteArray := prog_22_method_2_code
def yJx4a65c_init_da8c8 : MethodName := ⟨RJx4a65c, "<init>", "()V"⟩
abbrev cJx4a65c_grow_92f84 : ByteArray := prog_22_method_6_code
def yJx4a65c_grow_92f84 : MethodName := ⟨RJx4a65c, "grow", "(I)[Ljava/lang/Object;"⟩
abbrev cJx4a65c_grow_d5877 : ByteArray := prog_22_method_7_code
def yJx4a65c_grow_d5877 : MethodName := ⟨RJx4a65c, "grow", "()[Ljava/lang/Object;"⟩
abbrev cJx4a65c_size_8abf5 : ByteArray := prog_22_method_8_code
def yJx4a65c_size_8abf5 : MethodName := ⟨RJx4a65c, "size", "()I"⟩
abbrev cJx4a65c_elementData_915e3 : ByteArray := prog_22_method_18_code
def yJx4a65c_elementData_915e3 : MethodName := ⟨RJx4a65c, "elementData", "(I)Ljava/lang/Object;"⟩
abbrev cJx4a65c_get_915e3 : ByteArray := prog_22_method_20_code
def yJx4a65c_get_915e3 : MethodName := ⟨RJx4a65c, "get", "(I)Ljava/lang/Object;"⟩
abbrev cJx4a65c_add_72be8 : ByteArray := prog_22_method_24_code
def yJx4a65c_add_72be8 : MethodName := ⟨RJx4a65c, "add", "(Ljava/lang/Object;[Ljava/lang/Object;I)V"⟩
abbrev cJx4a65c_add_9ea2d : ByteArray := prog_22_method_25_code
def yJx4a65c_add_9ea2d : MethodName := ⟨RJx4a65c, "add", "(Ljava/lang/Object;)Z"⟩
abbrev cJx4a65c_remove_915e3 : ByteArray := prog_22_method_29_code
def yJx4a65c_remove_915e3 : MethodName := ⟨RJx4a65c, "remove", "(I)Ljava/lang/Object;"⟩
abbrev cJx4a65c_fastRemove_b59b0 : ByteArray := prog_22_method_39_code
def yJx4a65c_fastRemove_b59b0 : MethodName := ⟨RJx4a65c, "fastRemove", "([Ljava/lang/Object;I)V"⟩
def RJ7 : String := "java/util/Arrays"
def TJ7 : u_T := fun k => match k with
  | _ => ("", "", "", false)
def tyJ7 : Nat → FieldType := fun k => match k with
  | _ => .int
abbrev wsJ70 : List Cond := u_ws RJ7 TJ7 0
theorem nmJ7 : ∀ a, a < 0 → ∀ b, b < 0 → a ≠ b → (TJ7 a).2.1 ≠ (TJ7 b).2.1 := by decide +kernel
theorem tyJ7_ok : ∀ k, k < 0 → parseFieldDescriptor (TJ7 k).2.2.1 = some (tyJ7 k) := by decide +kernel
abbrev cJ7_fill_53178 : ByteArray := prog_23_method_103_code
def yJ7_fill_53178 : MethodName := ⟨RJ7, "fill", "([II)V"⟩
abbrev cJ7_copyOf_1904c : ByteArray := prog_23_method_119_code
def yJ7_copyOf_1904c : MethodName := ⟨RJ7, "copyOf", "([Ljava/lang/Object;I)[Ljava/lang/Object;"⟩
abbrev cJ7_copyOf_6403c : ByteArray := prog_23_method_120_code
def yJ7_copyOf_6403c : MethodName := ⟨RJ7, "copyOf", "([Ljava/lang/Object;ILjava/lang/Class;)[Ljava/lang/Object;"⟩
def RJx5ef63 : String := "java/util/Collection"
def TJx5ef63 : u_T := fun k => match k with
  | _ => ("", "", "", false)
def tyJx5ef63 : Nat → FieldType := fun k => match k with
  | _ => .int
abbrev wsJx5ef630 : List Cond := u_ws RJx5ef63 TJx5ef63 0
theorem nmJx5ef63 : ∀ a, a < 0 → ∀ b, b < 0 → a ≠ b → (TJx5ef63 a).2.1 ≠ (TJx5ef63 b).2.1 := by decide +kernel
theorem tyJx5ef63_ok : ∀ k, k < 0 → parseFieldDescriptor (TJx5ef63 k).2.2.1 = some (tyJx5ef63 k) := by decide +kernel
def RJxbd725 : String := "java/util/List"
def TJxbd725 : u_T := fun k => match k with
  | _ => ("", "", "", false)
def tyJxbd725 : Nat → FieldType := fun k => match k with
  | _ => .int
abbrev wsJxbd7250 : List Cond := u_ws RJxbd725 TJxbd725 0
theorem nmJxbd725 : ∀ a, a < 0 → ∀ b, b < 0 → a ≠ b → (TJxbd725 a).2.1 ≠ (TJxbd725 b).2.1 := by decide +kernel
theorem tyJxbd725_ok : ∀ k, k < 0 → parseFieldDescriptor (TJxbd725 k).2.2.1 = some (tyJxbd725 k) := by decide +kernel
def RJ15 : String := "java/util/Objects"
def TJ15 : u_T := fun k => match k with
  | _ => ("", "", "", false)
def tyJ15 : Nat → FieldType := fun k => match k with
  | _ => .int
abbrev wsJ150 : List Cond := u_ws RJ15 TJ15 0
theorem nmJ15 : ∀ a, a < 0 → ∀ b, b < 0 → a ≠ b → (TJ15 a).2.1 ≠ (TJ15 b).2.1 := by decide +kernel
theorem tyJ15_ok : ∀ k, k < 0 → parseFieldDescriptor (TJ15 k).2.2.1 = some (tyJ15 k) := by decide +kernel
abbrev cJ15_checkIndex_7cf53 : ByteArray := prog_26_method_17_code
def yJ15_checkIndex_7cf53 : MethodName := ⟨RJ15, "checkIndex", "(II)I"⟩
def RJxf0a74 : String := "java/util/RandomAccess"
def TJxf0a74 : u_T := fun k => match k with
  | _ => ("", "", "", false)
def tyJxf0a74 : Nat → FieldType := fun k => match k with
  | _ => .int
abbrev wsJxf0a740 : List Cond := u_ws RJxf0a74 TJxf0a74 0
theorem nmJxf0a74 : ∀ a, a < 0 → ∀ b, b < 0 → a ≠ b → (TJxf0a74 a).2.1 ≠ (TJxf0a74 b).2.1 := by decide +kernel
theorem tyJxf0a74_ok : ∀ k, k < 0 → parseFieldDescriptor (TJxf0a74 k).2.2.1 = some (tyJxf0a74 k) := by decide +kernel
def RJxa66e6 : String := "java/util/SequencedCollection"
def TJxa66e6 : u_T := fun k => match k with
  | _ => ("", "", "", false)
def tyJxa66e6 : Nat → FieldType := fun k => match k with
  | _ => .int
abbrev wsJxa66e60 : List Cond := u_ws RJxa66e6 TJxa66e6 0
theorem nmJxa66e6 : ∀ a, a < 0 → ∀ b, b < 0 → a ≠ b → (TJxa66e6 a).2.1 ≠ (TJxa66e6 b).2.1 := by decide +kernel
theorem tyJxa66e6_ok : ∀ k, k < 0 → parseFieldDescriptor (TJxa66e6 k).2.2.1 = some (tyJxa66e6 k) := by decide +kernel
def RJ8 : String := "jdk/internal/util/ArraysSupport"
def TJ8 : u_T := fun k => match k with
  | _ => ("", "", "", false)
def tyJ8 : Nat → FieldType := fun k => match k with
  | _ => .int
abbrev wsJ80 : List Cond := u_ws RJ8 TJ8 0
theorem nmJ8 : ∀ a, a < 0 → ∀ b, b < 0 → a ≠ b → (TJ8 a).2.1 ≠ (TJ8 b).2.1 := by decide +kernel
theorem tyJ8_ok : ∀ k, k < 0 → parseFieldDescriptor (TJ8 k).2.2.1 = some (tyJ8 k) := by decide +kernel
abbrev cJ8_newLength_cabcc : ByteArray := prog_29_method_27_code
def yJ8_newLength_cabcc : MethodName := ⟨RJ8, "newLength", "(III)I"⟩
abbrev cJ8_hugeLength_7cf53 : ByteArray := prog_29_method_28_code
def yJ8_hugeLength_7cf53 : MethodName := ⟨RJ8, "hugeLength", "(II)I"⟩
def RJ3 : String := "jdk/internal/util/Preconditions"
def TJ3 : u_T := fun k => match k with
  | _ => ("", "", "", false)
def tyJ3 : Nat → FieldType := fun k => match k with
  | _ => .int
abbrev wsJ30 : List Cond := u_ws RJ3 TJ3 0
theorem nmJ3 : ∀ a, a < 0 → ∀ b, b < 0 → a ≠ b → (TJ3 a).2.1 ≠ (TJ3 b).2.1 := by decide +kernel
theorem tyJ3_ok : ∀ k, k < 0 → parseFieldDescriptor (TJ3 k).2.2.1 = some (tyJ3 k) := by decide +kernel
abbrev cJ3_checkIndex_8e157 : ByteArray := prog_30_method_11_code
def yJ3_checkIndex_8e157 : MethodName := ⟨RJ3, "checkIndex", "(IILjava/util/function/BiFunction;)I"⟩
def RL : String := "MarketAwningsLaw"
abbrev cL_hang : ByteArray := method_3_code
def yL_hang : MethodName := ⟨RL, "hang", "(LMarketAwnings;IIIIII[J)I"⟩
abbrev cL_roll : ByteArray := method_4_code
def yL_roll : MethodName := ⟨RL, "roll", "(LMarketAwnings;I[J)I"⟩
abbrev cL_move : ByteArray := method_5_code
def yL_move : MethodName := ⟨RL, "move", "(LMarketAwnings;III[J)I"⟩
abbrev cL_take : ByteArray := method_6_code
def yL_take : MethodName := ⟨RL, "take", "(LMarketAwnings;I[J)I"⟩
abbrev cL_stall : ByteArray := method_7_code
def yL_stall : MethodName := ⟨RL, "stall", "(LMarketAwnings;II[J)I"⟩
abbrev cL_rain : ByteArray := method_8_code
def yL_rain : MethodName := ⟨RL, "rain", "(LMarketAwnings;I[J)I"⟩
abbrev cL_about : ByteArray := method_9_code
def yL_about : MethodName := ⟨RL, "about", "(LMarketAwnings;II[J)I"⟩
abbrev cL_cell : ByteArray := method_10_code
def yL_cell : MethodName := ⟨RL, "cell", "(LMarketAwnings;III[J)I"⟩
abbrev cL_cord : ByteArray := method_11_code
def yL_cord : MethodName := ⟨RL, "cord", "(LMarketAwnings;II[J)I"⟩
abbrev cL_told : ByteArray := method_12_code
def yL_told : MethodName := ⟨RL, "told", "(LMarketAwnings;II[J)I"⟩
abbrev cL_share : ByteArray := method_13_code
def yL_share : MethodName := ⟨RL, "share", "(LMarketAwnings;II[J)I"⟩
abbrev cL_count : ByteArray := method_14_code
def yL_count : MethodName := ⟨RL, "count", "(LMarketAwnings;I[J)I"⟩
abbrev cL_would : ByteArray := method_15_code
def yL_would : MethodName := ⟨RL, "would", "(LMarketAwnings;II[J)I"⟩
abbrev cL_best : ByteArray := method_16_code
def yL_best : MethodName := ⟨RL, "best", "(LMarketAwnings;III[J)I"⟩
abbrev cL_law : ByteArray := code
def yL_law : MethodName := ⟨RL, "law", "([I)Z"⟩
def wsL_law0_r1 : List Cond := [Cond.classLink RL 8 RX4, Cond.instantiable RX4 7, Cond.initialized RX4, Cond.classLink RL 63 RX5, Cond.instantiable RX5 11, Cond.initialized RX5, Cond.arrayClass .long, Cond.methodLink RL 62 yX4_init, Cond.instanceMethod yX4_init, Cond.code yX4_init cX4_init 1 none, Cond.methodLink RX4 3 objectInit, Cond.instanceMethod objectInit, Cond.code objectInit ⟨#[0xb1]⟩ 1 none, Cond.classLink RX4 9 RX1, Cond.instantiable RX1 5, Cond.initialized RX1, Cond.fieldLink RX4 12 "MarketAwnings" "canopy" "LMarketAwnings$Canopy;", Cond.classLink RX4 16 RX2, Cond.instantiable RX2 5, Cond.initialized RX2, Cond.fieldLink RX4 21 "MarketAwnings" "shower" "LMarketAwnings$Shower;", Cond.classLink RX4 25 RJx4a65c, Cond.instantiable RJx4a65c 3, Cond.initialized RJx4a65c]
def wsL_law0_r2 : List Cond := [Cond.fieldLink RX4 28 "MarketAwnings" "stalls" "Ljava/util/ArrayList;", Cond.arrayClass .int, Cond.fieldLink RX4 32 "MarketAwnings" "ground" "[I", Cond.fieldLink RX4 36 "MarketAwnings" "hours" "I", Cond.fieldLink RX4 40 "MarketAwnings" "groundDrops" "I", Cond.fieldLink RX4 43 "MarketAwnings" "offDrops" "I", Cond.methodLink RX4 11 yX1_init, Cond.instanceMethod yX1_init, Cond.code yX1_init cX1_init 1 none, Cond.methodLink RX1 3 objectInit, Cond.classLink RX1 9 RJx4a65c, Cond.fieldLink RX1 12 "MarketAwnings$Canopy" "awnings" "Ljava/util/ArrayList;", Cond.fieldLink RX1 18 "MarketAwnings$Canopy" "layers" "[I", Cond.fieldLink RX1 22 "MarketAwnings$Canopy" "reached" "[I", Cond.fieldLink RX1 25 "MarketAwnings$Canopy" "queue" "[I", Cond.fieldLink RX1 28 "MarketAwnings$Canopy" "queued" "I", Cond.methodLink RX1 11 yJx4a65c_init_da8c8, Cond.instanceMethod yJx4a65c_init_da8c8, Cond.code yJx4a65c_init_da8c8 cJx4a65c_init_da8c8 1 none, Cond.fieldLink RJx4a65c 39 "java/util/ArrayList" "DEFAULTCAPACITY_EMPTY_ELEMENTDATA" "[Ljava/lang/Object;", Cond.fieldLink RJx4a65c 9 "java/util/ArrayList" "elementData" "[Ljava/lang/Object;", Cond.methodLink RJx4a65c 1 yJxc12de_init_da8c8, Cond.instanceMethod yJxc12de_init_da8c8, Cond.initialized RJxc12de]
def wsL_law0_r3 : List Cond := [Cond.code yJxc12de_init_da8c8 cJxc12de_init_da8c8 1 none, Cond.fieldLink RJxc12de 7 "java/util/AbstractList" "modCount" "I", Cond.methodLink RJxc12de 1 yJxa1e45_init_da8c8, Cond.instanceMethod yJxa1e45_init_da8c8, Cond.initialized RJxa1e45, Cond.code yJxa1e45_init_da8c8 cJxa1e45_init_da8c8 1 none, Cond.methodLink RJxa1e45 1 objectInit, Cond.methodLink RX4 18 yX2_init, Cond.instanceMethod yX2_init, Cond.code yX2_init cX2_init 2 none, Cond.methodLink RX2 3 objectInit, Cond.fieldLink RX2 9 "MarketAwnings$Shower" "canopy" "LMarketAwnings$Canopy;", Cond.fieldLink RX2 15 "MarketAwnings$Shower" "fallen" "[I", Cond.fieldLink RX2 19 "MarketAwnings$Shower" "caught" "[I", Cond.fieldLink RX2 22 "MarketAwnings$Shower" "onGround" "I", Cond.fieldLink RX2 26 "MarketAwnings$Shower" "ranOff" "I", Cond.methodLink RX4 27 yJx4a65c_init_da8c8, Cond.methodLink RL 65 yX5_init, Cond.instanceMethod yX5_init, Cond.code yX5_init cX5_init 1 none, Cond.methodLink RX5 1 objectInit, Cond.fieldLink RX5 9 "MarketAwningsModel" "sheet" "[I", Cond.fieldLink RX5 13 "MarketAwningsModel" "at" "[I", Cond.fieldLink RX5 16 "MarketAwningsModel" "had" "[I"]
def wsL_law0_r4 : List Cond := [Cond.fieldLink RX5 19 "MarketAwningsModel" "ground" "[I", Cond.fieldLink RX5 22 "MarketAwningsModel" "fell" "[I", Cond.fieldLink RX5 25 "MarketAwningsModel" "load" "[I", Cond.methodLink RL 66 yL_hang, Cond.static yL_hang, Cond.initialized RL, Cond.codeWith yL_hang cL_hang 9 (some .int) [(0, 18, 21, 13), (0, 18, 25, 15), (0, 18, 29, 17)], Cond.classLink RL 13 "java/lang/IllegalArgumentException", Cond.classLink RL 15 "java/lang/IndexOutOfBoundsException", Cond.classLink RL 17 "java/lang/IllegalStateException", Cond.methodLink RL 7 yX4_hang, Cond.instanceMethod yX4_hang, Cond.selects RX4 yX4_hang yX4_hang, Cond.code yX4_hang cX4_hang 7 (some .int), Cond.classLink RX4 50 "java/lang/IllegalArgumentException", Cond.initialized "java/lang/IllegalArgumentException", Cond.classLink RX4 67 "java/lang/IllegalStateException", Cond.initialized "java/lang/IllegalStateException", Cond.classLink RX4 72 RX0, Cond.instantiable RX0 8, Cond.initialized RX0, Cond.methodLink RX4 46 yX4_requireExtent, Cond.static yX4_requireExtent, Cond.code yX4_requireExtent cX4_requireExtent 2 none]
def wsL_law0_r5 : List Cond := [Cond.methodLink RX4 59 yX4_requireRoomInSquare, Cond.static yX4_requireRoomInSquare, Cond.code yX4_requireRoomInSquare cX4_requireRoomInSquare 4 none, Cond.classLink RX4 178 "java/lang/IndexOutOfBoundsException", Cond.initialized "java/lang/IndexOutOfBoundsException", Cond.methodLink RX4 63 yX1_size, Cond.instanceMethod yX1_size, Cond.selects RX1 yX1_size yX1_size, Cond.code yX1_size cX1_size 1 (some .int), Cond.methodLink RX1 32 yJx4a65c_size_8abf5, Cond.instanceMethod yJx4a65c_size_8abf5, Cond.selects RJx4a65c yJx4a65c_size_8abf5 yJx4a65c_size_8abf5, Cond.code yJx4a65c_size_8abf5 cJx4a65c_size_8abf5 1 (some .int), Cond.fieldLink RJx4a65c 48 "java/util/ArrayList" "size" "I", Cond.methodLink RX4 74 yX0_init, Cond.instanceMethod yX0_init, Cond.code yX0_init cX0_init 7 none, Cond.methodLink RX0 3 objectInit, Cond.fieldLink RX0 9 "MarketAwnings$Awning" "x" "I", Cond.fieldLink RX0 15 "MarketAwnings$Awning" "y" "I", Cond.fieldLink RX0 18 "MarketAwnings$Awning" "w" "I", Cond.fieldLink RX0 21 "MarketAwnings$Awning" "h" "I", Cond.fieldLink RX0 24 "MarketAwnings$Awning" "level" "I", Cond.fieldLink RX0 27 "MarketAwnings$Awning" "side" "I"]
def wsL_law0_r6 : List Cond := [Cond.fieldLink RX0 30 "MarketAwnings$Awning" "out" "Z", Cond.fieldLink RX0 34 "MarketAwnings$Awning" "dripped" "I", Cond.methodLink RX4 77 yX1_append, Cond.instanceMethod yX1_append, Cond.selects RX1 yX1_append yX1_append, Cond.code yX1_append cX1_append 2 none, Cond.methodLink RX1 53 yJx4a65c_add_9ea2d, Cond.instanceMethod yJx4a65c_add_9ea2d, Cond.selects RJx4a65c yJx4a65c_add_9ea2d yJx4a65c_add_9ea2d, Cond.code yJx4a65c_add_9ea2d cJx4a65c_add_9ea2d 2 (some .boolean), Cond.fieldLink RJx4a65c 63 "java/util/ArrayList" "modCount" "I", Cond.sameField "java/util/ArrayList" "java/util/AbstractList" "modCount" "I", Cond.methodLink RJx4a65c 131 yJx4a65c_add_72be8, Cond.instanceMethod yJx4a65c_add_72be8, Cond.selects RJx4a65c yJx4a65c_add_72be8 yJx4a65c_add_72be8, Cond.code yJx4a65c_add_72be8 cJx4a65c_add_72be8 4 none, Cond.methodLink RJx4a65c 129 yJx4a65c_grow_d5877, Cond.instanceMethod yJx4a65c_grow_d5877, Cond.selects RJx4a65c yJx4a65c_grow_d5877 yJx4a65c_grow_d5877, Cond.code yJx4a65c_grow_d5877 cJx4a65c_grow_d5877 1 (some (.array (.object "java/lang/Object"))), Cond.methodLink RJx4a65c 69 yJx4a65c_grow_92f84, Cond.instanceMethod yJx4a65c_grow_92f84, Cond.selects RJx4a65c yJx4a65c_grow_92f84 yJx4a65c_grow_92f84, Cond.code yJx4a65c_grow_92f84 cJx4a65c_grow_92f84 4 (some (.array (.object "java/lang/Object")))]
def wsL_law0_r7 : List Cond := [Cond.methodLink RJx4a65c 79 Lib.Math.max.name, Cond.static Lib.Math.max.name, Cond.initialized "java/lang/Math", Cond.code Lib.Math.max.name Lib.Math.max.code 2 (some .int), Cond.classLink RJx4a65c 7 "java/lang/Object", Cond.methodLink RJx4a65c 73 yJ8_newLength_cabcc, Cond.static yJ8_newLength_cabcc, Cond.initialized RJ8, Cond.code yJ8_newLength_cabcc cJ8_newLength_cabcc 4 (some .int), Cond.methodLink RJ8 194 Lib.Math.max.name, Cond.constant RJ8 200 (2147483639), Cond.methodLink RJ8 201 yJ8_hugeLength_7cf53, Cond.static yJ8_hugeLength_7cf53, Cond.code yJ8_hugeLength_7cf53 cJ8_hugeLength_7cf53 3 (some .int), Cond.methodLink RJx4a65c 66 yJ7_copyOf_1904c, Cond.static yJ7_copyOf_1904c, Cond.initialized RJ7, Cond.code yJ7_copyOf_1904c cJ7_copyOf_1904c 2 (some (.array (.object "java/lang/Object"))), Cond.methodLink RJ7 86 ⟨"java/lang/Object", "getClass", "()Ljava/lang/Class;"⟩, Cond.selects "[Ljava/lang/Object;" ⟨"java/lang/Object", "getClass", "()Ljava/lang/Class;"⟩ ⟨"java/lang/Object", "getClass", "()Ljava/lang/Class;"⟩, Cond.instanceMethod ⟨"java/lang/Object", "getClass", "()Ljava/lang/Class;"⟩, Cond.native ⟨"java/lang/Object", "getClass", "()Ljava/lang/Class;"⟩, Cond.methodLink RJ7 300 yJ7_copyOf_6403c, Cond.static yJ7_copyOf_6403c]
def wsL_law0_r8 : List Cond := [Cond.code yJ7_copyOf_6403c cJ7_copyOf_6403c 4 (some (.array (.object "java/lang/Object"))), Cond.classLink RJ7 110 "[Ljava/lang/Object;", Cond.classLink RJ7 2 "java/lang/Object", Cond.methodLink RJ7 304 Lib.Math.min.name, Cond.static Lib.Math.min.name, Cond.code Lib.Math.min.name Lib.Math.min.code 2 (some .int), Cond.methodLink RJ7 150 arraycopyName, Cond.native arraycopyName, Cond.static arraycopyName, Cond.initialized "java/lang/System", Cond.methodLink RX1 57 yX1_layOut, Cond.instanceMethod yX1_layOut, Cond.selects RX1 yX1_layOut yX1_layOut, Cond.code yX1_layOut cX1_layOut 2 none, Cond.classLink RX1 40 "MarketAwnings$Awning", Cond.fieldLink RX1 42 "MarketAwnings$Awning" "out" "Z", Cond.methodLink RX1 63 yJ7_fill_53178, Cond.static yJ7_fill_53178, Cond.code yJ7_fill_53178 cJ7_fill_53178 4 none, Cond.methodLink RX1 36 yJx4a65c_get_915e3, Cond.instanceMethod yJx4a65c_get_915e3, Cond.selects RJx4a65c yJx4a65c_get_915e3 yJx4a65c_get_915e3, Cond.code yJx4a65c_get_915e3 cJx4a65c_get_915e3 2 (some (.object "java/lang/Object")), Cond.methodLink RJx4a65c 118 yJ15_checkIndex_7cf53]
def wsL_law0_r9 : List Cond := [Cond.static yJ15_checkIndex_7cf53, Cond.initialized RJ15, Cond.code yJ15_checkIndex_7cf53 cJ15_checkIndex_7cf53 2 (some .int), Cond.methodLink RJ15 105 yJ3_checkIndex_8e157, Cond.static yJ3_checkIndex_8e157, Cond.initialized RJ3, Cond.code yJ3_checkIndex_8e157 cJ3_checkIndex_8e157 3 (some .int), Cond.methodLink RJx4a65c 123 yJx4a65c_elementData_915e3, Cond.instanceMethod yJx4a65c_elementData_915e3, Cond.selects RJx4a65c yJx4a65c_elementData_915e3 yJx4a65c_elementData_915e3, Cond.code yJx4a65c_elementData_915e3 cJx4a65c_elementData_915e3 2 (some (.object "java/lang/Object")), Cond.methodLink RX1 69 yX1_layOver, Cond.instanceMethod yX1_layOver, Cond.selects RX1 yX1_layOver yX1_layOver, Cond.code yX1_layOver cX1_layOver 4 none, Cond.fieldLink RX1 73 "MarketAwnings$Awning" "y" "I", Cond.fieldLink RX1 76 "MarketAwnings$Awning" "h" "I", Cond.fieldLink RX1 79 "MarketAwnings$Awning" "x" "I", Cond.fieldLink RX1 82 "MarketAwnings$Awning" "w" "I", Cond.static yX4_isCell, Cond.code yX4_isCell cX4_isCell 2 (some .boolean), Cond.methodLink RL 71 yX5_hang, Cond.instanceMethod yX5_hang, Cond.selects RX5 yX5_hang yX5_hang]
def wsL_law0_r10 : List Cond := [Cond.code yX5_hang cX5_hang 8 (some .int), Cond.fieldLink RX5 28 "MarketAwningsModel" "thrown" "I", Cond.fieldLink RX5 36 "MarketAwningsModel" "awnings" "I", Cond.methodLink RX5 85 arraycopyName, Cond.methodLink RX5 32 yX5_isIn, Cond.static yX5_isIn, Cond.code yX5_isIn cX5_isIn 3 (some .boolean), Cond.methodLink RX5 78 yX5_no, Cond.instanceMethod yX5_no, Cond.selects RX5 yX5_no yX5_no, Cond.code yX5_no cX5_no 2 (some .int), Cond.methodLink RX5 81 yX5_fits, Cond.static yX5_fits, Cond.code yX5_fits cX5_fits 4 (some .boolean), Cond.methodLink RL 72 yX5_thrown, Cond.instanceMethod yX5_thrown, Cond.selects RX5 yX5_thrown yX5_thrown, Cond.code yX5_thrown cX5_thrown 1 (some .int), Cond.methodLink RL 76 yL_roll, Cond.static yL_roll, Cond.codeWith yL_roll cL_roll 4 (some .int) [(0, 16, 19, 15)], Cond.methodLink RL 19 yX4_roll, Cond.instanceMethod yX4_roll, Cond.selects RX4 yX4_roll yX4_roll]
def wsL_law0_r11 : List Cond := [Cond.code yX4_roll cX4_roll 3 (some .boolean), Cond.fieldLink RX4 85 "MarketAwnings$Awning" "out" "Z", Cond.methodLink RX4 81 yX1_numbered, Cond.instanceMethod yX1_numbered, Cond.selects RX1 yX1_numbered yX1_numbered, Cond.code yX1_numbered cX1_numbered 2 (some (.object "MarketAwnings$Awning")), Cond.classLink RX1 46 "java/lang/IndexOutOfBoundsException", Cond.methodLink RX4 89 yX1_layOut, Cond.methodLink RL 79 yX5_roll, Cond.instanceMethod yX5_roll, Cond.selects RX5 yX5_roll yX5_roll, Cond.code yX5_roll cX5_roll 2 (some .boolean), Cond.methodLink RX5 91 yX5_isAwning, Cond.instanceMethod yX5_isAwning, Cond.selects RX5 yX5_isAwning yX5_isAwning, Cond.code yX5_isAwning cX5_isAwning 2 (some .boolean), Cond.methodLink RX5 42 yX5_of, Cond.instanceMethod yX5_of, Cond.selects RX5 yX5_of yX5_of, Cond.code yX5_of cX5_of 3 (some .int), Cond.methodLink RX5 46 yX5_isOut, Cond.instanceMethod yX5_isOut, Cond.selects RX5 yX5_isOut yX5_isOut, Cond.code yX5_isOut cX5_isOut 2 (some .boolean)]
def wsL_law0_r12 : List Cond := [Cond.methodLink RL 80 yL_move, Cond.static yL_move, Cond.codeWith yL_move cL_move 6 (some .int) [(0, 12, 15, 15)], Cond.methodLink RL 23 yX4_move, Cond.instanceMethod yX4_move, Cond.selects RX4 yX4_move yX4_move, Cond.code yX4_move cX4_move 5 (some .int), Cond.fieldLink RX4 92 "MarketAwnings$Awning" "w" "I", Cond.fieldLink RX4 95 "MarketAwnings$Awning" "h" "I", Cond.fieldLink RX4 98 "MarketAwnings$Awning" "x" "I", Cond.fieldLink RX4 101 "MarketAwnings$Awning" "y" "I", Cond.methodLink RX4 104 yX1_covered, Cond.instanceMethod yX1_covered, Cond.selects RX1 yX1_covered yX1_covered, Cond.code yX1_covered cX1_covered 1 (some .int), Cond.methodLink RX1 95 yX1_cellsWithLayers, Cond.instanceMethod yX1_cellsWithLayers, Cond.selects RX1 yX1_cellsWithLayers yX1_cellsWithLayers, Cond.code yX1_cellsWithLayers cX1_cellsWithLayers 4 (some .int), Cond.methodLink RL 83 yX5_move, Cond.instanceMethod yX5_move, Cond.selects RX5 yX5_move yX5_move, Cond.code yX5_move cX5_move 4 (some .int), Cond.methodLink RX5 94 yX5_counted]
def wsL_law0_r13 : List Cond := [Cond.instanceMethod yX5_counted, Cond.selects RX5 yX5_counted yX5_counted, Cond.code yX5_counted cX5_counted 2 (some .int), Cond.fieldLink RX5 39 "MarketAwningsModel" "stalls" "I", Cond.fieldLink RX5 106 "MarketAwningsModel" "hours" "I", Cond.fieldLink RX5 103 "MarketAwningsModel" "ranOff" "I", Cond.methodLink RX5 153 yX5_out, Cond.instanceMethod yX5_out, Cond.selects RX5 yX5_out yX5_out, Cond.code yX5_out cX5_out 3 (some .int), Cond.methodLink RX5 157 yX5_outline, Cond.instanceMethod yX5_outline, Cond.selects RX5 yX5_outline yX5_outline, Cond.code yX5_outline cX5_outline 4 (some .int), Cond.methodLink RX5 129 yX5_covered_, Cond.instanceMethod yX5_covered_, Cond.selects RX5 yX5_covered_ yX5_covered_, Cond.code yX5_covered_ cX5_covered_ 2 (some .int), Cond.methodLink RX5 56 yX5_covered, Cond.instanceMethod yX5_covered, Cond.selects RX5 yX5_covered yX5_covered, Cond.code yX5_covered cX5_covered 5 (some .int), Cond.methodLink RX5 53 yX5_bits, Cond.instanceMethod yX5_bits]
def wsL_law0_r14 : List Cond := [Cond.selects RX5 yX5_bits yX5_bits, Cond.code yX5_bits cX5_bits 3 (some .int), Cond.methodLink RX5 50 yX5_rows, Cond.static yX5_rows, Cond.code yX5_rows cX5_rows 2 (some .int), Cond.methodLink RX5 109 yX5_many, Cond.static yX5_many, Cond.code yX5_many cX5_many 3 (some .int), Cond.methodLink RX5 160 yX5_parts, Cond.instanceMethod yX5_parts, Cond.selects RX5 yX5_parts yX5_parts, Cond.code yX5_parts cX5_parts 7 (some .int), Cond.methodLink RX5 149 yX5_spreads, Cond.static yX5_spreads, Cond.code yX5_spreads cX5_spreads 5 (some .boolean), Cond.methodLink RX5 163 yX5_open, Cond.instanceMethod yX5_open, Cond.selects RX5 yX5_open yX5_open, Cond.code yX5_open cX5_open 3 (some .int), Cond.methodLink RX5 146 yX5_stallTold, Cond.instanceMethod yX5_stallTold, Cond.selects RX5 yX5_stallTold yX5_stallTold, Cond.code yX5_stallTold cX5_stallTold 3 (some .int), Cond.methodLink RX5 140 yX5_got]
def wsL_law0_r15 : List Cond := [Cond.instanceMethod yX5_got, Cond.selects RX5 yX5_got yX5_got, Cond.code yX5_got cX5_got 2 (some .int), Cond.methodLink RX5 118 yX5_lying, Cond.instanceMethod yX5_lying, Cond.selects RX5 yX5_lying yX5_lying, Cond.code yX5_lying cX5_lying 5 (some .int), Cond.methodLink RX5 166 yX5_sumOf, Cond.instanceMethod yX5_sumOf, Cond.selects RX5 yX5_sumOf yX5_sumOf, Cond.code yX5_sumOf cX5_sumOf 5 (some .int), Cond.methodLink RL 84 yL_take, Cond.static yL_take, Cond.codeWith yL_take cL_take 4 (some .int) [(0, 9, 12, 15)], Cond.methodLink RL 27 yX4_take, Cond.instanceMethod yX4_take, Cond.selects RX4 yX4_take yX4_take, Cond.code yX4_take cX4_take 2 (some .int), Cond.methodLink RX4 107 yX1_drop, Cond.instanceMethod yX1_drop, Cond.selects RX1 yX1_drop yX1_drop, Cond.code yX1_drop cX1_drop 2 none, Cond.methodLink RX1 60 yJx4a65c_remove_915e3, Cond.instanceMethod yJx4a65c_remove_915e3]
def wsL_law0_r16 : List Cond := [Cond.selects RJx4a65c yJx4a65c_remove_915e3 yJx4a65c_remove_915e3, Cond.code yJx4a65c_remove_915e3 cJx4a65c_remove_915e3 4 (some (.object "java/lang/Object")), Cond.methodLink RJx4a65c 144 yJx4a65c_fastRemove_b59b0, Cond.instanceMethod yJx4a65c_fastRemove_b59b0, Cond.selects RJx4a65c yJx4a65c_fastRemove_b59b0 yJx4a65c_fastRemove_b59b0, Cond.code yJx4a65c_fastRemove_b59b0 cJx4a65c_fastRemove_b59b0 4 none, Cond.methodLink RJx4a65c 112 arraycopyName, Cond.methodLink RL 86 yX5_take, Cond.instanceMethod yX5_take, Cond.selects RX5 yX5_take yX5_take, Cond.code yX5_take cX5_take 3 (some .int), Cond.methodLink RL 87 yL_stall, Cond.static yL_stall, Cond.codeWith yL_stall cL_stall 5 (some .int) [(0, 10, 13, 15), (0, 10, 17, 17)], Cond.methodLink RL 31 yX4_stall, Cond.instanceMethod yX4_stall, Cond.selects RX4 yX4_stall yX4_stall, Cond.code yX4_stall cX4_stall 3 (some .int), Cond.classLink RX4 123 RX3, Cond.instantiable RX3 3, Cond.initialized RX3, Cond.methodLink RX4 111 yX4_requireCell, Cond.static yX4_requireCell, Cond.code yX4_requireCell cX4_requireCell 2 none]
def wsL_law0_r17 : List Cond := [Cond.methodLink RX4 264 yX4_isCell, Cond.methodLink RX4 114 yJx4a65c_size_8abf5, Cond.methodLink RX4 117 yX4_hasStallAt, Cond.instanceMethod yX4_hasStallAt, Cond.selects RX4 yX4_hasStallAt yX4_hasStallAt, Cond.code yX4_hasStallAt cX4_hasStallAt 5 (some .boolean), Cond.classLink RX4 123 "MarketAwnings$Stall", Cond.fieldLink RX4 199 "MarketAwnings$Stall" "x" "I", Cond.fieldLink RX4 200 "MarketAwnings$Stall" "y" "I", Cond.methodLink RX4 257 yJx4a65c_get_915e3, Cond.methodLink RX4 125 yX4_groundAt, Cond.instanceMethod yX4_groundAt, Cond.selects RX4 yX4_groundAt yX4_groundAt, Cond.code yX4_groundAt cX4_groundAt 3 (some .int), Cond.methodLink RX4 129 yX3_init, Cond.instanceMethod yX3_init, Cond.code yX3_init cX3_init 4 none, Cond.methodLink RX3 1 objectInit, Cond.fieldLink RX3 7 "MarketAwnings$Stall" "x" "I", Cond.fieldLink RX3 13 "MarketAwnings$Stall" "y" "I", Cond.fieldLink RX3 16 "MarketAwnings$Stall" "groundBefore" "I", Cond.methodLink RX4 132 yJx4a65c_add_9ea2d, Cond.methodLink RL 90 yX5_stall, Cond.instanceMethod yX5_stall]
def wsL_law0_r18 : List Cond := [Cond.selects RX5 yX5_stall yX5_stall, Cond.code yX5_stall cX5_stall 5 (some .int), Cond.methodLink RX5 97 yX5_isCell, Cond.static yX5_isCell, Cond.code yX5_isCell cX5_isCell 2 (some .boolean), Cond.methodLink RL 91 yL_rain, Cond.static yL_rain, Cond.codeWith yL_rain cL_rain 4 (some .int) [(0, 9, 12, 13)], Cond.methodLink RL 35 yX4_rain, Cond.instanceMethod yX4_rain, Cond.selects RX4 yX4_rain yX4_rain, Cond.code yX4_rain cX4_rain 4 (some .int), Cond.fieldLink RX4 145 "MarketAwnings$Awning" "dripped" "I", Cond.fieldLink RX4 152 "MarketAwnings$Shower" "onGround" "I", Cond.fieldLink RX4 155 "MarketAwnings$Shower" "ranOff" "I", Cond.methodLink RX4 136 yX4_requireDrops, Cond.static yX4_requireDrops, Cond.code yX4_requireDrops cX4_requireDrops 1 none, Cond.methodLink RX4 139 yX2_pour, Cond.instanceMethod yX2_pour, Cond.selects RX2 yX2_pour yX2_pour, Cond.code yX2_pour cX2_pour 4 none, Cond.methodLink RX2 29 yX2_dry, Cond.instanceMethod yX2_dry]
def wsL_law0_r19 : List Cond := [Cond.selects RX2 yX2_dry yX2_dry, Cond.code yX2_dry cX2_dry 1 none, Cond.methodLink RX2 44 yJ7_fill_53178, Cond.methodLink RX2 32 yX2_land, Cond.instanceMethod yX2_land, Cond.selects RX2 yX2_land yX2_land, Cond.code yX2_land cX2_land 6 none, Cond.methodLink RX2 86 yX1_highestBelow, Cond.instanceMethod yX1_highestBelow, Cond.selects RX1 yX1_highestBelow yX1_highestBelow, Cond.code yX1_highestBelow cX1_highestBelow 8 (some .int), Cond.fieldLink RX1 89 "MarketAwnings$Awning" "level" "I", Cond.methodLink RX1 92 yX0_covers, Cond.instanceMethod yX0_covers, Cond.selects RX0 yX0_covers yX0_covers, Cond.code yX0_covers cX0_covers 3 (some .boolean), Cond.methodLink RX2 36 yX2_dripFromLevel, Cond.instanceMethod yX2_dripFromLevel, Cond.selects RX2 yX2_dripFromLevel yX2_dripFromLevel, Cond.code yX2_dripFromLevel cX2_dripFromLevel 4 none, Cond.fieldLink RX2 60 "MarketAwnings$Awning" "out" "Z", Cond.fieldLink RX2 66 "MarketAwnings$Awning" "level" "I", Cond.methodLink RX2 50 yX1_size, Cond.methodLink RX2 56 yX1_numbered]
def wsL_law0_r20 : List Cond := [Cond.methodLink RX2 69 yX2_caughtBy, Cond.instanceMethod yX2_caughtBy, Cond.selects RX2 yX2_caughtBy yX2_caughtBy, Cond.code yX2_caughtBy cX2_caughtBy 2 (some .int), Cond.methodLink RX2 73 yX2_drip, Cond.instanceMethod yX2_drip, Cond.selects RX2 yX2_drip yX2_drip, Cond.code yX2_drip cX2_drip 8 none, Cond.methodLink RX2 77 yX0_cellsBeyond, Cond.instanceMethod yX0_cellsBeyond, Cond.selects RX0 yX0_cellsBeyond yX0_cellsBeyond, Cond.code yX0_cellsBeyond cX0_cellsBeyond 1 (some .int), Cond.methodLink RX0 37 yX0_dripsAlongRows, Cond.instanceMethod yX0_dripsAlongRows, Cond.selects RX0 yX0_dripsAlongRows yX0_dripsAlongRows, Cond.code yX0_dripsAlongRows cX0_dripsAlongRows 1 (some .boolean), Cond.methodLink RX2 80 yX0_columnBeyond, Cond.instanceMethod yX0_columnBeyond, Cond.selects RX0 yX0_columnBeyond yX0_columnBeyond, Cond.code yX0_columnBeyond cX0_columnBeyond 2 (some .int), Cond.methodLink RX2 83 yX0_rowBeyond, Cond.instanceMethod yX0_rowBeyond, Cond.selects RX0 yX0_rowBeyond yX0_rowBeyond, Cond.code yX0_rowBeyond cX0_rowBeyond 2 (some .int)]
def wsL_law0_r21 : List Cond := [Cond.methodLink RX4 142 yX2_fallenAt, Cond.instanceMethod yX2_fallenAt, Cond.selects RX2 yX2_fallenAt yX2_fallenAt, Cond.code yX2_fallenAt cX2_fallenAt 3 (some .int), Cond.methodLink RX4 148 yX2_caughtBy, Cond.methodLink RL 93 yX5_rain, Cond.instanceMethod yX5_rain, Cond.selects RX5 yX5_rain yX5_rain, Cond.code yX5_rain cX5_rain 4 (some .int), Cond.methodLink RX5 100 yX5_pour, Cond.instanceMethod yX5_pour, Cond.selects RX5 yX5_pour yX5_pour, Cond.code yX5_pour cX5_pour 4 (some .int), Cond.methodLink RX5 71 yX5_fall, Cond.instanceMethod yX5_fall, Cond.selects RX5 yX5_fall yX5_fall, Cond.code yX5_fall cX5_fall 6 none, Cond.methodLink RX5 67 yX5_highest, Cond.instanceMethod yX5_highest, Cond.selects RX5 yX5_highest yX5_highest, Cond.code yX5_highest cX5_highest 5 (some .int), Cond.methodLink RX5 63 yX5_below, Cond.instanceMethod yX5_below, Cond.selects RX5 yX5_below yX5_below]
def wsL_law0_r22 : List Cond := [Cond.code yX5_below cX5_below 4 (some .int), Cond.methodLink RX5 59 yX5_isHigher, Cond.instanceMethod yX5_isHigher, Cond.selects RX5 yX5_isHigher yX5_isHigher, Cond.code yX5_isHigher cX5_isHigher 3 (some .boolean), Cond.methodLink RX5 75 yX5_drip, Cond.instanceMethod yX5_drip, Cond.selects RX5 yX5_drip yX5_drip, Cond.code yX5_drip cX5_drip 8 (some .int), Cond.methodLink RL 94 yL_about, Cond.static yL_about, Cond.codeWith yL_about cL_about 5 (some .int) [(0, 10, 13, 15)], Cond.methodLink RL 38 yX4_about, Cond.instanceMethod yX4_about, Cond.selects RX4 yX4_about yX4_about, Cond.code yX4_about cX4_about 4 (some .int), Cond.fieldLink RX4 161 "MarketAwnings$Awning" "level" "I", Cond.fieldLink RX4 164 "MarketAwnings$Awning" "side" "I", Cond.methodLink RX4 158 yX4_requireWhat, Cond.static yX4_requireWhat, Cond.code yX4_requireWhat cX4_requireWhat 2 none, Cond.methodLink RX4 167 yX1_coveredOnlyBy, Cond.instanceMethod yX1_coveredOnlyBy, Cond.selects RX1 yX1_coveredOnlyBy yX1_coveredOnlyBy]
def wsL_law0_r23 : List Cond := [Cond.code yX1_coveredOnlyBy cX1_coveredOnlyBy 5 (some .int), Cond.methodLink RX1 99 yX1_layersAt, Cond.instanceMethod yX1_layersAt, Cond.selects RX1 yX1_layersAt yX1_layersAt, Cond.code yX1_layersAt cX1_layersAt 3 (some .int), Cond.methodLink RL 96 yX5_about, Cond.instanceMethod yX5_about, Cond.selects RX5 yX5_about yX5_about, Cond.code yX5_about cX5_about 3 (some .int), Cond.methodLink RX5 115 yX5_awningTold, Cond.instanceMethod yX5_awningTold, Cond.selects RX5 yX5_awningTold yX5_awningTold, Cond.code yX5_awningTold cX5_awningTold 3 (some .int), Cond.methodLink RX5 112 yX5_own, Cond.instanceMethod yX5_own, Cond.selects RX5 yX5_own yX5_own, Cond.code yX5_own cX5_own 4 (some .int), Cond.methodLink RL 97 yL_cell, Cond.static yL_cell, Cond.codeWith yL_cell cL_cell 6 (some .int) [(0, 12, 15, 15)], Cond.methodLink RL 41 yX4_cell, Cond.instanceMethod yX4_cell, Cond.selects RX4 yX4_cell yX4_cell, Cond.code yX4_cell cX4_cell 4 (some .int)]
def wsL_law0_r24 : List Cond := [Cond.methodLink RX4 171 yX1_layersAt, Cond.methodLink RX4 174 yX1_highestBelow, Cond.methodLink RL 99 yX5_cell, Cond.instanceMethod yX5_cell, Cond.selects RX5 yX5_cell yX5_cell, Cond.code yX5_cell cX5_cell 4 (some .int), Cond.methodLink RX5 121 yX5_cellTold, Cond.instanceMethod yX5_cellTold, Cond.selects RX5 yX5_cellTold yX5_cellTold, Cond.code yX5_cellTold cX5_cellTold 4 (some .int), Cond.methodLink RL 100 yL_cord, Cond.static yL_cord, Cond.codeWith yL_cord cL_cord 5 (some .int) [(0, 10, 13, 15)], Cond.methodLink RL 44 yX4_cord, Cond.instanceMethod yX4_cord, Cond.selects RX4 yX4_cord yX4_cord, Cond.code yX4_cord cX4_cord 3 (some .int), Cond.methodLink RX4 183 yX1_coveredInColumn, Cond.instanceMethod yX1_coveredInColumn, Cond.selects RX1 yX1_coveredInColumn yX1_coveredInColumn, Cond.code yX1_coveredInColumn cX1_coveredInColumn 4 (some .int), Cond.methodLink RX4 186 yX1_runsInColumn, Cond.instanceMethod yX1_runsInColumn, Cond.selects RX1 yX1_runsInColumn yX1_runsInColumn]
def wsL_law0_r25 : List Cond := [Cond.code yX1_runsInColumn cX1_runsInColumn 4 (some .int), Cond.methodLink RX4 189 yX1_longestRunInColumn, Cond.instanceMethod yX1_longestRunInColumn, Cond.selects RX1 yX1_longestRunInColumn yX1_longestRunInColumn, Cond.code yX1_longestRunInColumn cX1_longestRunInColumn 5 (some .int), Cond.methodLink RX1 116 Lib.Math.max.name, Cond.methodLink RX4 192 yX1_mostLayersInColumn, Cond.instanceMethod yX1_mostLayersInColumn, Cond.selects RX1 yX1_mostLayersInColumn yX1_mostLayersInColumn, Cond.code yX1_mostLayersInColumn cX1_mostLayersInColumn 4 (some .int), Cond.methodLink RL 102 yX5_cord, Cond.instanceMethod yX5_cord, Cond.selects RX5 yX5_cord yX5_cord, Cond.code yX5_cord cX5_cord 3 (some .int), Cond.methodLink RX5 137 yX5_cordTold, Cond.instanceMethod yX5_cordTold, Cond.selects RX5 yX5_cordTold yX5_cordTold, Cond.code yX5_cordTold cX5_cordTold 4 (some .int), Cond.methodLink RX5 131 yX5_longest, Cond.static yX5_longest, Cond.code yX5_longest cX5_longest 3 (some .int), Cond.methodLink RX5 134 yX5_deepest, Cond.instanceMethod yX5_deepest, Cond.selects RX5 yX5_deepest yX5_deepest]
def wsL_law0_r26 : List Cond := [Cond.code yX5_deepest cX5_deepest 4 (some .int), Cond.methodLink RX5 124 Lib.Math.max.name, Cond.methodLink RL 103 yL_told, Cond.static yL_told, Cond.codeWith yL_told cL_told 5 (some .int) [(0, 10, 13, 15)], Cond.methodLink RL 47 yX4_told, Cond.instanceMethod yX4_told, Cond.selects RX4 yX4_told yX4_told, Cond.code yX4_told cX4_told 4 (some .int), Cond.methodLink RX4 195 yX4_numberedStall, Cond.instanceMethod yX4_numberedStall, Cond.selects RX4 yX4_numberedStall yX4_numberedStall, Cond.code yX4_numberedStall cX4_numberedStall 2 (some (.object "MarketAwnings$Stall")), Cond.methodLink RX4 201 yX4_gotBy, Cond.instanceMethod yX4_gotBy, Cond.selects RX4 yX4_gotBy yX4_gotBy, Cond.code yX4_gotBy cX4_gotBy 2 (some .int), Cond.fieldLink RX4 261 "MarketAwnings$Stall" "groundBefore" "I", Cond.methodLink RL 105 yX5_told, Cond.instanceMethod yX5_told, Cond.selects RX5 yX5_told yX5_told, Cond.code yX5_told cX5_told 3 (some .int), Cond.methodLink RX5 143 yX5_isStall, Cond.instanceMethod yX5_isStall]
def wsL_law0_r27 : List Cond := [Cond.selects RX5 yX5_isStall yX5_isStall, Cond.code yX5_isStall cX5_isStall 2 (some .boolean), Cond.methodLink RL 106 yL_share, Cond.static yL_share, Cond.codeWith yL_share cL_share 5 (some .int) [(0, 10, 13, 15)], Cond.methodLink RL 50 yX4_share, Cond.instanceMethod yX4_share, Cond.selects RX4 yX4_share yX4_share, Cond.code yX4_share cX4_share 7 (some .int), Cond.methodLink RX4 205 Lib.Math.min.name, Cond.methodLink RX4 210 Lib.Math.max.name, Cond.methodLink RL 108 yX5_share, Cond.instanceMethod yX5_share, Cond.selects RX5 yX5_share yX5_share, Cond.code yX5_share cX5_share 5 (some .int), Cond.methodLink RL 109 yL_count, Cond.static yL_count, Cond.codeWith yL_count cL_count 4 (some .int) [(0, 9, 12, 15)], Cond.methodLink RL 53 yX4_count, Cond.instanceMethod yX4_count, Cond.selects RX4 yX4_count yX4_count, Cond.code yX4_count cX4_count 2 (some .int), Cond.methodLink RX4 213 yX1_sizeOut, Cond.instanceMethod yX1_sizeOut]
def wsL_law0_r28 : List Cond := [Cond.selects RX1 yX1_sizeOut yX1_sizeOut, Cond.code yX1_sizeOut cX1_sizeOut 3 (some .int), Cond.methodLink RX4 216 yX1_outline, Cond.instanceMethod yX1_outline, Cond.selects RX1 yX1_outline yX1_outline, Cond.code yX1_outline cX1_outline 4 (some .int), Cond.methodLink RX1 103 yX1_openSides, Cond.instanceMethod yX1_openSides, Cond.selects RX1 yX1_openSides yX1_openSides, Cond.code yX1_openSides cX1_openSides 3 (some .int), Cond.methodLink RX1 106 yX1_openAt, Cond.instanceMethod yX1_openAt, Cond.selects RX1 yX1_openAt yX1_openAt, Cond.code yX1_openAt cX1_openAt 3 (some .int), Cond.methodLink RX4 219 yX1_parts, Cond.instanceMethod yX1_parts, Cond.selects RX1 yX1_parts yX1_parts, Cond.code yX1_parts cX1_parts 4 (some .int), Cond.methodLink RX1 109 yX1_reach, Cond.instanceMethod yX1_reach, Cond.selects RX1 yX1_reach yX1_reach, Cond.code yX1_reach cX1_reach 4 none, Cond.methodLink RX1 113 yX1_reachAllFromQueue, Cond.instanceMethod yX1_reachAllFromQueue]
def wsL_law0_r29 : List Cond := [Cond.selects RX1 yX1_reachAllFromQueue yX1_reachAllFromQueue, Cond.code yX1_reachAllFromQueue cX1_reachAllFromQueue 4 none, Cond.methodLink RX4 222 yX1_cellsWithLayers, Cond.methodLink RX4 225 yX4_stallsNotCovered, Cond.instanceMethod yX4_stallsNotCovered, Cond.selects RX4 yX4_stallsNotCovered yX4_stallsNotCovered, Cond.code yX4_stallsNotCovered cX4_stallsNotCovered 4 (some .int), Cond.methodLink RL 111 yX5_count, Cond.instanceMethod yX5_count, Cond.selects RX5 yX5_count yX5_count, Cond.code yX5_count cX5_count 2 (some .int), Cond.methodLink RL 112 yL_would, Cond.static yL_would, Cond.codeWith yL_would cL_would 5 (some .int) [(0, 10, 13, 15), (0, 10, 17, 13)], Cond.methodLink RL 56 yX4_would, Cond.instanceMethod yX4_would, Cond.selects RX4 yX4_would yX4_would, Cond.code yX4_would cX4_would 4 (some .int), Cond.methodLink RL 114 yX5_would, Cond.instanceMethod yX5_would, Cond.selects RX5 yX5_would yX5_would, Cond.code yX5_would cX5_would 3 (some .int), Cond.methodLink RL 115 yL_best, Cond.static yL_best]
def wsL_law0_r30 : List Cond := [Cond.codeWith yL_best cL_best 6 (some .int) [(0, 12, 15, 13), (0, 12, 19, 15)], Cond.methodLink RL 59 yX4_best, Cond.instanceMethod yX4_best, Cond.selects RX4 yX4_best yX4_best, Cond.code yX4_best cX4_best 10 (some .int), Cond.methodLink RX4 228 yX1_notCoveredIn, Cond.instanceMethod yX1_notCoveredIn, Cond.selects RX1 yX1_notCoveredIn yX1_notCoveredIn, Cond.code yX1_notCoveredIn cX1_notCoveredIn 8 (some .int), Cond.methodLink RL 117 yX5_best, Cond.instanceMethod yX5_best, Cond.selects RX5 yX5_best yX5_best, Cond.code yX5_best cX5_best 10 (some .int), Cond.methodLink RL 118 yX4_advise, Cond.instanceMethod yX4_advise, Cond.selects RX4 yX4_advise yX4_advise, Cond.code yX4_advise cX4_advise 6 (some .int), Cond.methodLink RL 121 yX5_advise, Cond.instanceMethod yX5_advise, Cond.selects RX5 yX5_advise yX5_advise, Cond.code yX5_advise cX5_advise 3 (some .int), Cond.methodLink RL 122 yX4_mean, Cond.instanceMethod yX4_mean, Cond.selects RX4 yX4_mean yX4_mean]
def wsL_law0_r31 : List Cond := [Cond.code yX4_mean cX4_mean 4 (some .double), Cond.methodLink RL 126 yX5_mean, Cond.instanceMethod yX5_mean, Cond.selects RX5 yX5_mean yX5_mean, Cond.code yX5_mean cX5_mean 3 (some .double), Cond.methodLink RL 127 yX4_digest, Cond.instanceMethod yX4_digest, Cond.selects RX4 yX4_digest yX4_digest, Cond.code yX4_digest cX4_digest 5 (some .long), Cond.constantLong RX4 232 (1741), Cond.constantLong RX4 234 (31), Cond.methodLink RX4 236 yX4_count, Cond.methodLink RX4 239 yX4_about, Cond.methodLink RX4 242 yX4_told, Cond.methodLink RX4 245 yX4_digestOfColumn, Cond.instanceMethod yX4_digestOfColumn, Cond.selects RX4 yX4_digestOfColumn yX4_digestOfColumn, Cond.code yX4_digestOfColumn cX4_digestOfColumn 8 (some .long), Cond.methodLink RX4 249 yX4_cord, Cond.methodLink RX4 252 yX4_cell, Cond.methodLink RL 131 yX5_digest, Cond.instanceMethod yX5_digest, Cond.selects RX5 yX5_digest yX5_digest, Cond.code yX5_digest cX5_digest 6 (some .long)]
def wsL_law0_r32 : List Cond := [Cond.constantLong RX5 169 (1741), Cond.constantLong RX5 171 (31)]
def wsL_law0 : List Cond := (wsL_law0_r1 ++ (wsL_law0_r2 ++ (wsL_law0_r3 ++ (wsL_law0_r4 ++ (wsL_law0_r5 ++ (wsL_law0_r6 ++ (wsL_law0_r7 ++ (wsL_law0_r8 ++ (wsL_law0_r9 ++ (wsL_law0_r10 ++ (wsL_law0_r11 ++ (wsL_law0_r12 ++ (wsL_law0_r13 ++ (wsL_law0_r14 ++ (wsL_law0_r15 ++ (wsL_law0_r16 ++ (wsL_law0_r17 ++ (wsL_law0_r18 ++ (wsL_law0_r19 ++ (wsL_law0_r20 ++ (wsL_law0_r21 ++ (wsL_law0_r22 ++ (wsL_law0_r23 ++ (wsL_law0_r24 ++ (wsL_law0_r25 ++ (wsL_law0_r26 ++ (wsL_law0_r27 ++ (wsL_law0_r28 ++ (wsL_law0_r29 ++ (wsL_law0_r30 ++ (wsL_law0_r31 ++ wsL_law0_r32))))))))))))))))))))))))))))))) ++ wsX40 ++ wsX50 ++ wsX10 ++ wsX20 ++ wsJx4a65c0 ++ wsX00 ++ wsX30 ++ ([] : List Cond)
def wsL_law : List Cond := wsL_law0 ++ (vx_atS RX4 54 "java/lang/IllegalArgumentException" ["java/lang/RuntimeException", "java/lang/Exception"]).filter goodWord ++ (vx_atS RX4 71 "java/lang/IllegalStateException" ["java/lang/RuntimeException", "java/lang/Exception"]).filter goodWord ++ (vx_atS RX4 182 "java/lang/IndexOutOfBoundsException" ["java/lang/RuntimeException", "java/lang/Exception"]).filter goodWord ++ (vx_atS RX1 50 "java/lang/IndexOutOfBoundsException" ["java/lang/RuntimeException", "java/lang/Exception"]).filter goodWord
set_option maxRecDepth 20000 in
theorem wsL_law_c1 : ∀ w ∈ wsL_law0_r1, w ∈ lw_tbl := fun w h => (goodIn_r wsL_law0_r1 [70, 71, 49, 759, 760, 55, 1008, 72, 73, 74, 75, 76, 77, 78, 79, 50, 153, 127, 128, 54, 154, 151, 85, 53] (by decide +kernel) (by decide +kernel) w h).1
set_option maxRecDepth 20000 in
theorem wsL_law_c2 : ∀ w ∈ wsL_law0_r2, w ∈ lw_tbl := fun w h => (goodIn_r wsL_law0_r2 [155, 126, 156, 157, 158, 159, 80, 81, 82, 83, 84, 110, 111, 112, 113, 114, 86, 87, 88, 96, 98, 89, 90, 52] (by decide +kernel) (by decide +kernel) w h).1
set_option maxRecDepth 20000 in
theorem wsL_law_c3 : ∀ w ∈ wsL_law0_r3, w ∈ lw_tbl := fun w h => (goodIn_r wsL_law0_r3 [91, 100, 92, 93, 51, 94, 95, 129, 130, 131, 132, 133, 134, 135, 136, 138, 152, 761, 762, 763, 764, 767, 769, 770] (by decide +kernel) (by decide +kernel) w h).1
set_option maxRecDepth 20000 in
theorem wsL_law_c4 : ∀ w ∈ wsL_law0_r4, w ∈ lw_tbl := fun w h => (goodIn_r wsL_law0_r4 [771, 774, 775, 419, 420, 48, 421, 422, 423, 424, 425, 426, 427, 428, 432, 59, 454, 61, 470, 471, 62, 429, 430, 431] (by decide +kernel) (by decide +kernel) w h).1
set_option maxRecDepth 20000 in
theorem wsL_law_c5 : ∀ w ∈ wsL_law0_r5, w ∈ lw_tbl := fun w h => (goodIn_r wsL_law0_r5 [450, 451, 452, 294, 60, 179, 180, 181, 182, 183, 184, 185, 186, 99, 472, 473, 474, 475, 476, 479, 482, 485, 488, 492] (by decide +kernel) (by decide +kernel) w h).1
set_option maxRecDepth 20000 in
theorem wsL_law_c6 : ∀ w ∈ wsL_law0_r6, w ∈ lw_tbl := fun w h => (goodIn_r wsL_law0_r6 [494, 498, 517, 518, 519, 520, 521, 522, 523, 524, 101, 102, 525, 527, 10, 528, 529, 531, 11, 532, 533, 535, 12, 536] (by decide +kernel) (by decide +kernel) w h).1
set_option maxRecDepth 20000 in
theorem wsL_law_c7 : ∀ w ∈ wsL_law0_r7, w ∈ lw_tbl := fun w h => (goodIn_r wsL_law0_r7 [574, 397, 64, 398, 575, 537, 538, 63, 539, 540, 541, 542, 543, 544, 545, 546, 65, 547, 548, 1023, 549, 561, 562, 563] (by decide +kernel) (by decide +kernel) w h).1
set_option maxRecDepth 20000 in
theorem wsL_law_c8 : ∀ w ∈ wsL_law0_r8, w ∈ lw_tbl := fun w h => (goodIn_r wsL_law0_r8 [564, 565, 567, 568, 569, 570, 571, 573, 572, 66, 576, 577, 578, 579, 273, 496, 350, 351, 352, 259, 260, 261, 262, 263] (by decide +kernel) (by decide +kernel) w h).1
set_option maxRecDepth 20000 in
theorem wsL_law_c9 : ∀ w ∈ wsL_law0_r9, w ∈ lw_tbl := fun w h => (goodIn_r wsL_law0_r9 [264, 67, 265, 266, 267, 68, 268, 269, 270, 271, 272, 580, 582, 13, 583, 481, 487, 478, 484, 283, 284, 803, 804, 805] (by decide +kernel) (by decide +kernel) w h).1
set_option maxRecDepth 20000 in
theorem wsL_law_c10 : ∀ w ∈ wsL_law0_r10, w ∈ lw_tbl := fun w h => (goodIn_r wsL_law0_r10 [806, 765, 766, 817, 807, 808, 809, 810, 812, 20, 813, 814, 815, 816, 799, 800, 801, 802, 584, 585, 586, 587, 588, 589] (by decide +kernel) (by decide +kernel) w h).1
set_option maxRecDepth 20000 in
theorem wsL_law_c11 : ∀ w ∈ wsL_law0_r11, w ∈ lw_tbl := fun w h => (goodIn_r wsL_law0_r11 [590, 495, 187, 188, 189, 190, 191, 591, 818, 819, 820, 821, 822, 824, 21, 825, 826, 828, 22, 829, 830, 832, 23, 833] (by decide +kernel) (by decide +kernel) w h).1
set_option maxRecDepth 20000 in
theorem wsL_law_c12 : ∀ w ∈ wsL_law0_r12, w ∈ lw_tbl := fun w h => (goodIn_r wsL_law0_r12 [592, 593, 594, 595, 596, 597, 598, 483, 486, 477, 480, 326, 327, 328, 329, 330, 331, 332, 333, 834, 835, 836, 837, 838] (by decide +kernel) (by decide +kernel) w h).1
set_option maxRecDepth 20000 in
theorem wsL_law_c13 : ∀ w ∈ wsL_law0_r13, w ∈ lw_tbl := fun w h => (goodIn_r wsL_law0_r13 [840, 24, 841, 768, 772, 773, 842, 844, 25, 845, 846, 848, 26, 849, 850, 852, 27, 853, 854, 856, 28, 857, 858, 860] (by decide +kernel) (by decide +kernel) w h).1
set_option maxRecDepth 20000 in
theorem wsL_law_c14 : ∀ w ∈ wsL_law0_r14, w ∈ lw_tbl := fun w h => (goodIn_r wsL_law0_r14 [29, 861, 862, 863, 864, 865, 866, 867, 868, 870, 30, 871, 872, 873, 874, 875, 877, 31, 878, 879, 881, 32, 882, 883] (by decide +kernel) (by decide +kernel) w h).1
set_option maxRecDepth 20000 in
theorem wsL_law_c15 : ∀ w ∈ wsL_law0_r15, w ∈ lw_tbl := fun w h => (goodIn_r wsL_law0_r15 [885, 33, 886, 887, 889, 34, 890, 891, 893, 35, 894, 599, 600, 601, 602, 603, 604, 605, 606, 607, 608, 609, 610, 611] (by decide +kernel) (by decide +kernel) w h).1
set_option maxRecDepth 20000 in
theorem wsL_law_c16 : ∀ w ∈ wsL_law0_r16, w ∈ lw_tbl := fun w h => (goodIn_r wsL_law0_r16 [612, 613, 614, 616, 14, 617, 618, 895, 896, 897, 898, 619, 620, 621, 622, 623, 624, 625, 298, 632, 69, 407, 408, 409] (by decide +kernel) (by decide +kernel) w h).1
set_option maxRecDepth 20000 in
theorem wsL_law_c17 : ∀ w ∈ wsL_law0_r17, w ∈ lw_tbl := fun w h => (goodIn_r wsL_law0_r17 [307, 289, 627, 629, 15, 630, 298, 638, 640, 297, 303, 305, 3, 306, 633, 634, 635, 636, 637, 639, 641, 650, 899, 900] (by decide +kernel) (by decide +kernel) w h).1
set_option maxRecDepth 20000 in
theorem wsL_law_c18 : ∀ w ∈ wsL_law0_r18, w ∈ lw_tbl := fun w h => (goodIn_r wsL_law0_r18 [901, 902, 903, 904, 905, 651, 652, 653, 654, 655, 656, 657, 499, 137, 139, 658, 659, 660, 662, 663, 664, 665, 666, 668] (by decide +kernel) (by decide +kernel) w h).1
set_option maxRecDepth 20000 in
theorem wsL_law_c19 : ∀ w ∈ wsL_law0_r19, w ∈ lw_tbl := fun w h => (goodIn_r wsL_law0_r19 [16, 669, 670, 671, 673, 17, 674, 676, 412, 413, 414, 491, 415, 416, 417, 418, 677, 679, 18, 680, 497, 489, 681, 682] (by decide +kernel) (by decide +kernel) w h).1
set_option maxRecDepth 20000 in
theorem wsL_law_c20 : ∀ w ∈ wsL_law0_r20, w ∈ lw_tbl := fun w h => (goodIn_r wsL_law0_r20 [683, 684, 685, 686, 687, 689, 19, 690, 691, 692, 693, 694, 695, 696, 697, 698, 699, 700, 701, 702, 703, 704, 705, 706] (by decide +kernel) (by decide +kernel) w h).1
set_option maxRecDepth 20000 in
theorem wsL_law_c21 : ∀ w ∈ wsL_law0_r21, w ∈ lw_tbl := fun w h => (goodIn_r wsL_law0_r21 [707, 708, 709, 710, 711, 906, 907, 908, 909, 910, 912, 36, 913, 914, 916, 37, 917, 918, 920, 38, 921, 922, 924, 39] (by decide +kernel) (by decide +kernel) w h).1
set_option maxRecDepth 20000 in
theorem wsL_law_c22 : ∀ w ∈ wsL_law0_r22, w ∈ lw_tbl := fun w h => (goodIn_r wsL_law0_r22 [925, 926, 928, 40, 929, 930, 932, 41, 933, 712, 713, 714, 715, 368, 369, 370, 490, 493, 318, 319, 320, 274, 275, 276] (by decide +kernel) (by decide +kernel) w h).1
set_option maxRecDepth 20000 in
theorem wsL_law_c23 : ∀ w ∈ wsL_law0_r23, w ∈ lw_tbl := fun w h => (goodIn_r wsL_law0_r23 [277, 278, 279, 280, 281, 934, 935, 936, 937, 938, 940, 42, 941, 942, 944, 43, 945, 716, 717, 718, 719, 404, 405, 406] (by decide +kernel) (by decide +kernel) w h).1
set_option maxRecDepth 20000 in
theorem wsL_law_c24 : ∀ w ∈ wsL_law0_r24, w ∈ lw_tbl := fun w h => (goodIn_r wsL_law0_r24 [366, 411, 946, 947, 948, 949, 950, 952, 44, 953, 720, 721, 722, 723, 380, 381, 382, 384, 385, 386, 387, 388, 389, 390] (by decide +kernel) (by decide +kernel) w h).1
set_option maxRecDepth 20000 in
theorem wsL_law_c25 : ∀ w ∈ wsL_law0_r25, w ∈ lw_tbl := fun w h => (goodIn_r wsL_law0_r25 [391, 392, 393, 394, 395, 396, 399, 400, 401, 402, 954, 955, 956, 957, 958, 960, 45, 961, 962, 963, 964, 965, 967, 46] (by decide +kernel) (by decide +kernel) w h).1
set_option maxRecDepth 20000 in
theorem wsL_law_c26 : ∀ w ∈ wsL_law0_r26, w ∈ lw_tbl := fun w h => (goodIn_r wsL_law0_r26 [968, 969, 724, 725, 726, 727, 372, 373, 374, 290, 292, 1, 293, 299, 301, 2, 302, 642, 970, 971, 972, 973, 974, 976] (by decide +kernel) (by decide +kernel) w h).1
set_option maxRecDepth 20000 in
theorem wsL_law_c27 : ∀ w ∈ wsL_law0_r27, w ∈ lw_tbl := fun w h => (goodIn_r wsL_law0_r27 [47, 977, 728, 729, 730, 731, 732, 733, 734, 735, 736, 978, 979, 980, 981, 737, 738, 739, 740, 315, 316, 317, 322, 323] (by decide +kernel) (by decide +kernel) w h).1
set_option maxRecDepth 20000 in
theorem wsL_law_c28 : ∀ w ∈ wsL_law0_r28, w ∈ lw_tbl := fun w h => (goodIn_r wsL_law0_r28 [324, 325, 334, 335, 336, 337, 338, 340, 4, 341, 342, 344, 5, 345, 346, 347, 348, 349, 353, 355, 6, 356, 357, 359] (by decide +kernel) (by decide +kernel) w h).1
set_option maxRecDepth 20000 in
theorem wsL_law_c29 : ∀ w ∈ wsL_law0_r29, w ∈ lw_tbl := fun w h => (goodIn_r wsL_law0_r29 [7, 360, 361, 362, 364, 8, 365, 982, 983, 984, 985, 741, 742, 743, 744, 745, 746, 747, 986, 987, 988, 989, 748, 749] (by decide +kernel) (by decide +kernel) w h).1
set_option maxRecDepth 20000 in
theorem wsL_law_c30 : ∀ w ∈ wsL_law0_r30, w ∈ lw_tbl := fun w h => (goodIn_r wsL_law0_r30 [750, 751, 752, 753, 754, 755, 756, 757, 758, 990, 991, 992, 993, 175, 176, 177, 178, 994, 995, 996, 997, 285, 286, 287] (by decide +kernel) (by decide +kernel) w h).1
set_option maxRecDepth 20000 in
theorem wsL_law_c31 : ∀ w ∈ wsL_law0_r31, w ∈ lw_tbl := fun w h => (goodIn_r wsL_law0_r31 [288, 998, 999, 1000, 1001, 308, 309, 310, 311, 312, 313, 314, 367, 371, 375, 377, 9, 378, 379, 403, 1002, 1003, 1004, 1005] (by decide +kernel) (by decide +kernel) w h).1
set_option maxRecDepth 20000 in
theorem wsL_law_c32 : ∀ w ∈ wsL_law0_r32, w ∈ lw_tbl := fun w h => (goodIn_r wsL_law0_r32 [1006, 1007] (by decide +kernel) (by decide +kernel) w h).1
theorem wsL_law_in0a : ∀ w ∈ (wsL_law0_r1 ++ (wsL_law0_r2 ++ (wsL_law0_r3 ++ (wsL_law0_r4 ++ (wsL_law0_r5 ++ (wsL_law0_r6 ++ (wsL_law0_r7 ++ (wsL_law0_r8 ++ (wsL_law0_r9 ++ (wsL_law0_r10 ++ (wsL_law0_r11 ++ (wsL_law0_r12 ++ (wsL_law0_r13 ++ (wsL_law0_r14 ++ (wsL_law0_r15 ++ (wsL_law0_r16 ++ (wsL_law0_r17 ++ (wsL_law0_r18 ++ (wsL_law0_r19 ++ (wsL_law0_r20 ++ (wsL_law0_r21 ++ (wsL_law0_r22 ++ (wsL_law0_r23 ++ (wsL_law0_r24 ++ (wsL_law0_r25 ++ (wsL_law0_r26 ++ (wsL_law0_r27 ++ (wsL_law0_r28 ++ (wsL_law0_r29 ++ (wsL_law0_r30 ++ (wsL_law0_r31 ++ wsL_law0_r32))))))))))))))))))))))))))))))), w ∈ lw_tbl := fun w h => (List.mem_append.mp h).elim (fun h => wsL_law_c1 w h) (fun h => (List.mem_append.mp h).elim (fun h => wsL_law_c2 w h) (fun h => (List.mem_append.mp h).elim (fun h => wsL_law_c3 w h) (fun h => (List.mem_append.mp h).elim (fun h => wsL_law_c4 w h) (fun h => (List.mem_append.mp h).elim (fun h => wsL_law_c5 w h) (fun h => (List.mem_append.mp h).elim (fun h => wsL_law_c6 w h) (fun h => (List.mem_append.mp h).elim (fun h => wsL_law_c7 w h) (fun h => (List.mem_append.mp h).elim (fun h => wsL_law_c8 w h) (fun h => (List.mem_append.mp h).elim (fun h => wsL_law_c9 w h) (fun h => (List.mem_append.mp h).elim (fun h => wsL_law_c10 w h) (fun h => (List.mem_append.mp h).elim (fun h => wsL_law_c11 w h) (fun h => (List.mem_append.mp h).elim (fun h => wsL_law_c12 w h) (fun h => (List.mem_append.mp h).elim (fun h => wsL_law_c13 w h) (fun h => (List.mem_append.mp h).elim (fun h => wsL_law_c14 w h) (fun h => (List.mem_append.mp h).elim (fun h => wsL_law_c15 w h) (fun h => (List.mem_append.mp h).elim (fun h => wsL_law_c16 w h) (fun h => (List.mem_append.mp h).elim (fun h => wsL_law_c17 w h) (fun h => (List.mem_append.mp h).elim (fun h => wsL_law_c18 w h) (fun h => (List.mem_append.mp h).elim (fun h => wsL_law_c19 w h) (fun h => (List.mem_append.mp h).elim (fun h => wsL_law_c20 w h) (fun h => (List.mem_append.mp h).elim (fun h => wsL_law_c21 w h) (fun h => (List.mem_append.mp h).elim (fun h => wsL_law_c22 w h) (fun h => (List.mem_append.mp h).elim (fun h => wsL_law_c23 w h) (fun h => (List.mem_append.mp h).elim (fun h => wsL_law_c24 w h) (fun h => (List.mem_append.mp h).elim (fun h => wsL_law_c25 w h) (fun h => (List.mem_append.mp h).elim (fun h => wsL_law_c26 w h) (fun h => (List.mem_append.mp h).elim (fun h => wsL_law_c27 w h) (fun h => (List.mem_append.mp h).elim (fun h => wsL_law_c28 w h) (fun h => (List.mem_append.mp h).elim (fun h => wsL_law_c29 w h) (fun h => (List.mem_append.mp h).elim (fun h => wsL_law_c30 w h) (fun h => (List.mem_append.mp h).elim (fun h => wsL_law_c31 w h) (fun h => wsL_law_c32 w h)))))))))))))))))))))))))))))))
theorem wsL_law_uwsX40 : ∀ w ∈ wsX40, w ∈ lw_tbl := by decide +kernel
theorem wsL_law_uwsX50 : ∀ w ∈ wsX50, w ∈ lw_tbl := by decide +kernel
theorem wsL_law_uwsX10 : ∀ w ∈ wsX10, w ∈ lw_tbl := by decide +kernel
theorem wsL_law_uwsX20 : ∀ w ∈ wsX20, w ∈ lw_tbl := by decide +kernel
theorem wsL_law_uwsJx4a65c0 : ∀ w ∈ wsJx4a65c0, w ∈ lw_tbl := by decide +kernel
theorem wsL_law_uwsX00 : ∀ w ∈ wsX00, w ∈ lw_tbl := by decide +kernel
theorem wsL_law_uwsX30 : ∀ w ∈ wsX30, w ∈ lw_tbl := by decide +kernel
set_option maxRecDepth 20000 in
theorem wsL_law_in0 : ∀ w ∈ wsL_law0, w ∈ lw_tbl := fun w h => (List.mem_append.mp h).elim (fun h => (List.mem_append.mp h).elim (fun h => (List.mem_append.mp h).elim (fun h => (List.mem_append.mp h).elim (fun h => (List.mem_append.mp h).elim (fun h => (List.mem_append.mp h).elim (fun h => (List.mem_append.mp h).elim (fun h => (List.mem_append.mp h).elim (fun h => wsL_law_in0a w h) (fun h => wsL_law_uwsX40 w h)) (fun h => wsL_law_uwsX50 w h)) (fun h => wsL_law_uwsX10 w h)) (fun h => wsL_law_uwsX20 w h)) (fun h => wsL_law_uwsJx4a65c0 w h)) (fun h => wsL_law_uwsX00 w h)) (fun h => wsL_law_uwsX30 w h)) (fun h => absurd h List.not_mem_nil)
theorem wsL_law_x0 : ∀ w ∈ (vx_atS RX4 54 "java/lang/IllegalArgumentException" ["java/lang/RuntimeException", "java/lang/Exception"]).filter goodWord, w ∈ lw_tbl := by decide +kernel
theorem wsL_law_x1 : ∀ w ∈ (vx_atS RX4 71 "java/lang/IllegalStateException" ["java/lang/RuntimeException", "java/lang/Exception"]).filter goodWord, w ∈ lw_tbl := by decide +kernel
theorem wsL_law_x2 : ∀ w ∈ (vx_atS RX4 182 "java/lang/IndexOutOfBoundsException" ["java/lang/RuntimeException", "java/lang/Exception"]).filter goodWord, w ∈ lw_tbl := by decide +kernel
theorem wsL_law_x3 : ∀ w ∈ (vx_atS RX1 50 "java/lang/IndexOutOfBoundsException" ["java/lang/RuntimeException", "java/lang/Exception"]).filter goodWord, w ∈ lw_tbl := by decide +kernel
theorem wsL_law_in : ∀ w ∈ wsL_law, w ∈ lw_tbl := fun w h => (List.mem_append.mp h).elim (fun h => (List.mem_append.mp h).elim (fun h => (List.mem_append.mp h).elim (fun h => (List.mem_append.mp h).elim (fun h => wsL_law_in0 w h) (fun h => wsL_law_x0 w h)) (fun h => wsL_law_x1 w h)) (fun h => wsL_law_x2 w h)) (fun h => wsL_law_x3 w h)
theorem inlX0 : ∀ w ∈ wsX00, w ∈ wsL_law := fun _ h => List.mem_append_left _ (List.mem_append_left _ (List.mem_append_left _ (List.mem_append_left _ (List.mem_append_left _ (List.mem_append_left _ (List.mem_append_right _ h))))))
theorem inX0 : ∀ w ∈ wsX00, w ∈ lw_tbl := fun w h => wsL_law_in w (inlX0 w h)
theorem inlX1 : ∀ w ∈ wsX10, w ∈ wsL_law := fun _ h => List.mem_append_left _ (List.mem_append_left _ (List.mem_append_left _ (List.mem_append_left _ (List.mem_append_left _ (List.mem_append_left _ (List.mem_append_left _ (List.mem_append_left _ (List.mem_append_left _ (List.mem_append_right _ h)))))))))
theorem inX1 : ∀ w ∈ wsX10, w ∈ lw_tbl := fun w h => wsL_law_in w (inlX1 w h)
theorem inlX2 : ∀ w ∈ wsX20, w ∈ wsL_law := fun _ h => List.mem_append_left _ (List.mem_append_left _ (List.mem_append_left _ (List.mem_append_left _ (List.mem_append_left _ (List.mem_append_left _ (List.mem_append_left _ (List.mem_append_left _ (List.mem_append_right _ h))))))))
theorem inX2 : ∀ w ∈ wsX20, w ∈ lw_tbl := fun w h => wsL_law_in w (inlX2 w h)
theorem inlX3 : ∀ w ∈ wsX30, w ∈ wsL_law := fun _ h => List.mem_append_left _ (List.mem_append_left _ (List.mem_append_left _ (List.mem_append_left _ (List.mem_append_left _ (List.mem_append_right _ h)))))
theorem inX3 : ∀ w ∈ wsX30, w ∈ lw_tbl := fun w h => wsL_law_in w (inlX3 w h)
theorem inlX4 : ∀ w ∈ wsX40, w ∈ wsL_law := fun _ h => List.mem_append_left _ (List.mem_append_left _ (List.mem_append_left _ (List.mem_append_left _ (List.mem_append_left _ (List.mem_append_left _ (List.mem_append_left _ (List.mem_append_left _ (List.mem_append_left _ (List.mem_append_left _ (List.mem_append_left _ (List.mem_append_right _ h)))))))))))
theorem inX4 : ∀ w ∈ wsX40, w ∈ lw_tbl := fun w h => wsL_law_in w (inlX4 w h)
theorem inlX5 : ∀ w ∈ wsX50, w ∈ wsL_law := fun _ h => List.mem_append_left _ (List.mem_append_left _ (List.mem_append_left _ (List.mem_append_left _ (List.mem_append_left _ (List.mem_append_left _ (List.mem_append_left _ (List.mem_append_left _ (List.mem_append_left _ (List.mem_append_left _ (List.mem_append_right _ h))))))))))
theorem inX5 : ∀ w ∈ wsX50, w ∈ lw_tbl := fun w h => wsL_law_in w (inlX5 w h)
theorem inlJx4a65c : ∀ w ∈ wsJx4a65c0, w ∈ wsL_law := fun _ h => List.mem_append_left _ (List.mem_append_left _ (List.mem_append_left _ (List.mem_append_left _ (List.mem_append_left _ (List.mem_append_left _ (List.mem_append_left _ (List.mem_append_right _ h)))))))
theorem inJx4a65c : ∀ w ∈ wsJx4a65c0, w ∈ lw_tbl := fun w h => wsL_law_in w (inlJx4a65c w h)
abbrev vwCl : List vw_C := [(RJx4a65c, TJx4a65c, 3), (RX0, TX0, 8), (RX1, TX1, 5), (RX2, TX2, 5), (RX3, TX3, 3), (RX4, TX4, 7), (RX5, TX5, 11)]
end
section
theorem wl_1 : ∀ w ∈ wsL_law0_r1, w ∈ wsL_law := fun w h => List.mem_append_left _ (List.mem_append_left _ (List.mem_append_left _ (List.mem_append_left _ (List.mem_append_left _ (List.mem_append_left _ (List.mem_append_left _ (List.mem_append_left _ (List.mem_append_left _ (List.mem_append_left _ (List.mem_append_left _ (List.mem_append_left _ (List.mem_append_left _ h))))))))))))
theorem wl_2 : ∀ w ∈ wsL_law0_r2, w ∈ wsL_law := fun w h => List.mem_append_left _ (List.mem_append_left _ (List.mem_append_left _ (List.mem_append_left _ (List.mem_append_left _ (List.mem_append_left _ (List.mem_append_left _ (List.mem_append_left _ (List.mem_append_left _ (List.mem_append_left _ (List.mem_append_left _ (List.mem_append_left _ (List.mem_append_right _ (List.mem_append_left _ h)))))))))))))
theorem wl_3 : ∀ w ∈ wsL_law0_r3, w ∈ wsL_law := fun w h => List.mem_append_left _ (List.mem_append_left _ (List.mem_append_left _ (List.mem_append_left _ (List.mem_append_left _ (List.mem_append_left _ (List.mem_append_left _ (List.mem_append_left _ (List.mem_append_left _ (List.mem_append_left _ (List.mem_append_left _ (List.mem_append_left _ (List.mem_append_right _ (List.mem_append_right _ (List.mem_append_left _ h))))))))))))))
theorem wl_4 : ∀ w ∈ wsL_law0_r4, w ∈ wsL_law := fun w h => List.mem_append_left _ (List.mem_append_left _ (List.mem_append_left _ (List.mem_append_left _ (List.mem_append_left _ (List.mem_append_left _ (List.mem_append_left _ (List.mem_append_left _ (List.mem_append_left _ (List.mem_append_left _ (List.mem_append_left _ (List.mem_append_left _ (List.mem_append_right _ (List.mem_append_right _ (List.mem_append_right _ (List.mem_append_left _ h)))))))))))))))
theorem wl_5 : ∀ w ∈ wsL_law0_r5, w ∈ wsL_law := fun w h => List.mem_append_left _ (List.mem_append_left _ (List.mem_append_left _ (List.mem_append_left _ (List.mem_append_left _ (List.mem_append_left _ (List.mem_append_left _ (List.mem_append_left _ (List.mem_append_left _ (List.mem_append_left _ (List.mem_append_left _ (List.mem_append_left _ (List.mem_append_right _ (List.mem_append_right _ (List.mem_append_right _ (List.mem_append_right _ (List.mem_append_left _ h))))))))))))))))
theorem wl_6 : ∀ w ∈ wsL_law0_r6, w ∈ wsL_law := fun w h => List.mem_append_left _ (List.mem_append_left _ (List.mem_append_left _ (List.mem_append_left _ (List.mem_append_left _ (List.mem_append_left _ (List.mem_append_left _ (List.mem_append_left _ (List.mem_append_left _ (List.mem_append_left _ (List.mem_append_left _ (List.mem_append_left _ (List.mem_append_right _ (List.mem_append_right _ (List.mem_append_right _ (List.mem_append_right _ (List.mem_append_right _ (List.mem_append_left _ h)))))))))))))))))
theorem wl_7 : ∀ w ∈ wsL_law0_r7, w ∈ wsL_law := fun w h => List.mem_append_left _ (List.mem_append_left _ (List.mem_append_left _ (List.mem_append_left _ (List.mem_append_left _ (List.mem_append_left _ (List.mem_append_left _ (List.mem_append_left _ (List.mem_append_left _ (List.mem_append_left _ (List.mem_append_left _ (List.mem_append_left _ (List.mem_append_right _ (List.mem_append_right _ (List.mem_append_right _ (List.mem_append_right _ (List.mem_append_right _ (List.mem_append_right _ (List.mem_append_left _ h))))))))))))))))))
theorem wl_8 : ∀ w ∈ wsL_law0_r8, w ∈ wsL_law := fun w h => List.mem_append_left _ (List.mem_append_left _ (List.mem_append_left _ (List.mem_append_left _ (List.mem_append_left _ (List.mem_append_left _ (List.mem_append_left _ (List.mem_append_left _ (List.mem_append_left _ (List.mem_append_left _ (List.mem_append_left _ (List.mem_append_left _ (List.mem_append_right _ (List.mem_append_right _ (List.mem_append_right _ (List.mem_append_right _ (List.mem_append_right _ (List.mem_append_right _ (List.mem_append_right _ (List.mem_append_left _ h)))))))))))))))))))
theorem wl_9 : ∀ w ∈ wsL_law0_r9, w ∈ wsL_law := fun w h => List.mem_append_left _ (List.mem_append_left _ (List.mem_append_left _ (List.mem_append_left _ (List.mem_append_left _ (List.mem_append_left _ (List.mem_append_left _ (List.mem_append_left _ (List.mem_append_left _ (List.mem_append_left _ (List.mem_append_left _ (List.mem_append_left _ (List.mem_append_right _ (List.mem_append_right _ (List.mem_append_right _ (List.mem_append_right _ (List.mem_append_right _ (List.mem_append_right _ (List.mem_append_right _ (List.mem_append_right _ (List.mem_append_left _ h))))))))))))))))))))
theorem wl_10 : ∀ w ∈ wsL_law0_r10, w ∈ wsL_law := fun w h => List.mem_append_left _ (List.mem_append_left _ (List.mem_append_left _ (List.mem_append_left _ (List.mem_append_left _ (List.mem_append_left _ (List.mem_append_left _ (List.mem_append_left _ (List.mem_append_left _ (List.mem_append_left _ (List.mem_append_left _ (List.mem_append_left _ (List.mem_append_right _ (List.mem_append_right _ (List.mem_append_right _ (List.mem_append_right _ (List.mem_append_right _ (List.mem_append_right _ (List.mem_append_right _ (List.mem_append_right _ (List.mem_append_right _ (List.mem_append_left _ h)))))))))))))))))))))
theorem wl_11 : ∀ w ∈ wsL_law0_r11, w ∈ wsL_law := fun w h => List.mem_append_left _ (List.mem_append_left _ (List.mem_append_left _ (List.mem_append_left _ (List.mem_append_left _ (List.mem_append_left _ (List.mem_append_left _ (List.mem_append_left _ (List.mem_append_left _ (List.mem_append_left _ (List.mem_append_left _ (List.mem_append_left _ (List.mem_append_right _ (List.mem_append_right _ (List.mem_append_right _ (List.mem_append_right _ (List.mem_append_right _ (List.mem_append_right _ (List.mem_append_right _ (List.mem_append_right _ (List.mem_append_right _ (List.mem_append_right _ (List.mem_append_left _ h))))))))))))))))))))))
theorem wl_12 : ∀ w ∈ wsL_law0_r12, w ∈ wsL_law := fun w h => List.mem_append_left _ (List.mem_append_left _ (List.mem_append_left _ (List.mem_append_left _ (List.mem_append_left _ (List.mem_append_left _ (List.mem_append_left _ (List.mem_append_left _ (List.mem_append_left _ (List.mem_append_left _ (List.mem_append_left _ (List.mem_append_left _ (List.mem_append_right _ (List.mem_append_right _ (List.mem_append_right _ (List.mem_append_right _ (List.mem_append_right _ (List.mem_append_right _ (List.mem_append_right _ (List.mem_append_right _ (List.mem_append_right _ (List.mem_append_right _ (List.mem_append_right _ (List.mem_append_left _ h)))))))))))))))))))))))
theorem wl_13 : ∀ w ∈ wsL_law0_r13, w ∈ wsL_law := fun w h => List.mem_append_left _ (List.mem_append_left _ (List.mem_append_left _ (List.mem_append_left _ (List.mem_append_left _ (List.mem_append_left _ (List.mem_append_left _ (List.mem_append_left _ (List.mem_append_left _ (List.mem_append_left _ (List.mem_append_left _ (List.mem_append_left _ (List.mem_append_right _ (List.mem_append_right _ (List.mem_append_right _ (List.mem_append_right _ (List.mem_append_right _ (List.mem_append_right _ (List.mem_append_right _ (List.mem_append_right _ (List.mem_append_right _ (List.mem_append_right _ (List.mem_append_right _ (List.mem_append_right _ (List.mem_append_left _ h))))))))))))))))))))))))
theorem wl_14 : ∀ w ∈ wsL_law0_r14, w ∈ wsL_law := fun w h => List.mem_append_left _ (List.mem_append_left _ (List.mem_append_left _ (List.mem_append_left _ (List.mem_append_left _ (List.mem_append_left _ (List.mem_append_left _ (List.mem_append_left _ (List.mem_append_left _ (List.mem_append_left _ (List.mem_append_left _ (List.mem_append_left _ (List.mem_append_right _ (List.mem_append_right _ (List.mem_append_right _ (List.mem_append_right _ (List.mem_append_right _ (List.mem_append_right _ (List.mem_append_right _ (List.mem_append_right _ (List.mem_append_right _ (List.mem_append_right _ (List.mem_append_right _ (List.mem_append_right _ (List.mem_append_right _ (List.mem_append_left _ h)))))))))))))))))))))))))
theorem wl_15 : ∀ w ∈ wsL_law0_r15, w ∈ wsL_law := fun w h => List.mem_append_left _ (List.mem_append_left _ (List.mem_append_left _ (List.mem_append_left _ (List.mem_append_left _ (List.mem_append_left _ (List.mem_append_left _ (List.mem_append_left _ (List.mem_append_left _ (List.mem_append_left _ (List.mem_append_left _ (List.mem_append_left _ (List.mem_append_right _ (List.mem_append_right _ (List.mem_append_right _ (List.mem_append_right _ (List.mem_append_right _ (List.mem_append_right _ (List.mem_append_right _ (List.mem_append_right _ (List.mem_append_right _ (List.mem_append_right _ (List.mem_append_right _ (List.mem_append_right _ (List.mem_append_right _ (List.mem_append_right _ (List.mem_append_left _ h))))))))))))))))))))))))))
theorem wl_16 : ∀ w ∈ wsL_law0_r16, w ∈ wsL_law := fun w h => List.mem_append_left _ (List.mem_append_left _ (List.mem_append_left _ (List.mem_append_left _ (List.mem_append_left _ (List.mem_append_left _ (List.mem_append_left _ (List.mem_append_left _ (List.mem_append_left _ (List.mem_append_left _ (List.mem_append_left _ (List.mem_append_left _ (List.mem_append_right _ (List.mem_append_right _ (List.mem_append_right _ (List.mem_append_right _ (List.mem_append_right _ (List.mem_append_right _ (List.mem_append_right _ (List.mem_append_right _ (List.mem_append_right _ (List.mem_append_right _ (List.mem_append_right _ (List.mem_append_right _ (List.mem_append_right _ (List.mem_append_right _ (List.mem_append_right _ (List.mem_append_left _ h)))))))))))))))))))))))))))
theorem wl_17 : ∀ w ∈ wsL_law0_r17, w ∈ wsL_law := fun w h => List.mem_append_left _ (List.mem_append_left _ (List.mem_append_left _ (List.mem_append_left _ (List.mem_append_left _ (List.mem_append_left _ (List.mem_append_left _ (List.mem_append_left _ (List.mem_append_left _ (List.mem_append_left _ (List.mem_append_left _ (List.mem_append_left _ (List.mem_append_right _ (List.mem_append_right _ (List.mem_append_right _ (List.mem_append_right _ (List.mem_append_right _ (List.mem_append_right _ (List.mem_append_right _ (List.mem_append_right _ (List.mem_append_right _ (List.mem_append_right _ (List.mem_append_right _ (List.mem_append_right _ (List.mem_append_right _ (List.mem_append_right _ (List.mem_append_right _ (List.mem_append_right _ (List.mem_append_left _ h))))))))))))))))))))))))))))
theorem wl_18 : ∀ w ∈ wsL_law0_r18, w ∈ wsL_law := fun w h => List.mem_append_left _ (List.mem_append_left _ (List.mem_append_left _ (List.mem_append_left _ (List.mem_append_left _ (List.mem_append_left _ (List.mem_append_left _ (List.mem_append_left _ (List.mem_append_left _ (List.mem_append_left _ (List.mem_append_left _ (List.mem_append_left _ (List.mem_append_right _ (List.mem_append_right _ (List.mem_append_right _ (List.mem_append_right _ (List.mem_append_right _ (List.mem_append_right _ (List.mem_append_right _ (List.mem_append_right _ (List.mem_append_right _ (List.mem_append_right _ (List.mem_append_right _ (List.mem_append_right _ (List.mem_append_right _ (List.mem_append_right _ (List.mem_append_right _ (List.mem_append_right _ (List.mem_append_right _ (List.mem_append_left _ h)))))))))))))))))))))))))))))
theorem wl_19 : ∀ w ∈ wsL_law0_r19, w ∈ wsL_law := fun w h => List.mem_append_left _ (List.mem_append_left _ (List.mem_append_left _ (List.mem_append_left _ (List.mem_append_left _ (List.mem_append_left _ (List.mem_append_left _ (List.mem_append_left _ (List.mem_append_left _ (List.mem_append_left _ (List.mem_append_left _ (List.mem_append_left _ (List.mem_append_right _ (List.mem_append_right _ (List.mem_append_right _ (List.mem_append_right _ (List.mem_append_right _ (List.mem_append_right _ (List.mem_append_right _ (List.mem_append_right _ (List.mem_append_right _ (List.mem_append_right _ (List.mem_append_right _ (List.mem_append_right _ (List.mem_append_right _ (List.mem_append_right _ (List.mem_append_right _ (List.mem_append_right _ (List.mem_append_right _ (List.mem_append_right _ (List.mem_append_left _ h))))))))))))))))))))))))))))))
theorem wl_20 : ∀ w ∈ wsL_law0_r20, w ∈ wsL_law := fun w h => List.mem_append_left _ (List.mem_append_left _ (List.mem_append_left _ (List.mem_append_left _ (List.mem_append_left _ (List.mem_append_left _ (List.mem_append_left _ (List.mem_append_left _ (List.mem_append_left _ (List.mem_append_left _ (List.mem_append_left _ (List.mem_append_left _ (List.mem_append_right _ (List.mem_append_right _ (List.mem_append_right _ (List.mem_append_right _ (List.mem_append_right _ (List.mem_append_right _ (List.mem_append_right _ (List.mem_append_right _ (List.mem_append_right _ (List.mem_append_right _ (List.mem_append_right _ (List.mem_append_right _ (List.mem_append_right _ (List.mem_append_right _ (List.mem_append_right _ (List.mem_append_right _ (List.mem_append_right _ (List.mem_append_right _ (List.mem_append_right _ (List.mem_append_left _ h)))))))))))))))))))))))))))))))
theorem wl_21 : ∀ w ∈ wsL_law0_r21, w ∈ wsL_law := fun w h => List.mem_append_left _ (List.mem_append_left _ (List.mem_append_left _ (List.mem_append_left _ (List.mem_append_left _ (List.mem_append_left _ (List.mem_append_left _ (List.mem_append_left _ (List.mem_append_left _ (List.mem_append_left _ (List.mem_append_left _ (List.mem_append_left _ (List.mem_append_right _ (List.mem_append_right _ (List.mem_append_right _ (List.mem_append_right _ (List.mem_append_right _ (List.mem_append_right _ (List.mem_append_right _ (List.mem_append_right _ (List.mem_append_right _ (List.mem_append_right _ (List.mem_append_right _ (List.mem_append_right _ (List.mem_append_right _ (List.mem_append_right _ (List.mem_append_right _ (List.mem_append_right _ (List.mem_append_right _ (List.mem_append_right _ (List.mem_append_right _ (List.mem_append_right _ (List.mem_append_left _ h))))))))))))))))))))))))))))))))
theorem wl_22 : ∀ w ∈ wsL_law0_r22, w ∈ wsL_law := fun w h => List.mem_append_left _ (List.mem_append_left _ (List.mem_append_left _ (List.mem_append_left _ (List.mem_append_left _ (List.mem_append_left _ (List.mem_append_left _ (List.mem_append_left _ (List.mem_append_left _ (List.mem_append_left _ (List.mem_append_left _ (List.mem_append_left _ (List.mem_append_right _ (List.mem_append_right _ (List.mem_append_right _ (List.mem_append_right _ (List.mem_append_right _ (List.mem_append_right _ (List.mem_append_right _ (List.mem_append_right _ (List.mem_append_right _ (List.mem_append_right _ (List.mem_append_right _ (List.mem_append_right _ (List.mem_append_right _ (List.mem_append_right _ (List.mem_append_right _ (List.mem_append_right _ (List.mem_append_right _ (List.mem_append_right _ (List.mem_append_right _ (List.mem_append_right _ (List.mem_append_right _ (List.mem_append_left _ h)))))))))))))))))))))))))))))))))
theorem wl_23 : ∀ w ∈ wsL_law0_r23, w ∈ wsL_law := fun w h => List.mem_append_left _ (List.mem_append_left _ (List.mem_append_left _ (List.mem_append_left _ (List.mem_append_left _ (List.mem_append_left _ (List.mem_append_left _ (List.mem_append_left _ (List.mem_append_left _ (List.mem_append_left _ (List.mem_append_left _ (List.mem_append_left _ (List.mem_append_right _ (List.mem_append_right _ (List.mem_append_right _ (List.mem_append_right _ (List.mem_append_right _ (List.mem_append_right _ (List.mem_append_right _ (List.mem_append_right _ (List.mem_append_right _ (List.mem_append_right _ (List.mem_append_right _ (List.mem_append_right _ (List.mem_append_right _ (List.mem_append_right _ (List.mem_append_right _ (List.mem_append_right _ (List.mem_append_right _ (List.mem_append_right _ (List.mem_append_right _ (List.mem_append_right _ (List.mem_append_right _ (List.mem_append_right _ (List.mem_append_left _ h))))))))))))))))))))))))))))))))))
theorem wl_24 : ∀ w ∈ wsL_law0_r24, w ∈ wsL_law := fun w h => List.mem_append_left _ (List.mem_append_left _ (List.mem_append_left _ (List.mem_append_left _ (List.mem_append_left _ (List.mem_append_left _ (List.mem_append_left _ (List.mem_append_left _ (List.mem_append_left _ (List.mem_append_left _ (List.mem_append_left _ (List.mem_append_left _ (List.mem_append_right _ (List.mem_append_right _ (List.mem_append_right _ (List.mem_append_right _ (List.mem_append_right _ (List.mem_append_right _ (List.mem_append_right _ (List.mem_append_right _ (List.mem_append_right _ (List.mem_append_right _ (List.mem_append_right _ (List.mem_append_right _ (List.mem_append_right _ (List.mem_append_right _ (List.mem_append_right _ (List.mem_append_right _ (List.mem_append_right _ (List.mem_append_right _ (List.mem_append_right _ (List.mem_append_right _ (List.mem_append_right _ (List.mem_append_right _ (List.mem_append_right _ (List.mem_append_left _ h)))))))))))))))))))))))))))))))))))
theorem wl_25 : ∀ w ∈ wsL_law0_r25, w ∈ wsL_law := fun w h => List.mem_append_left _ (List.mem_append_left _ (List.mem_append_left _ (List.mem_append_left _ (List.mem_append_left _ (List.mem_append_left _ (List.mem_append_left _ (List.mem_append_left _ (List.mem_append_left _ (List.mem_append_left _ (List.mem_append_left _ (List.mem_append_left _ (List.mem_append_right _ (List.mem_append_right _ (List.mem_append_right _ (List.mem_append_right _ (List.mem_append_right _ (List.mem_append_right _ (List.mem_append_right _ (List.mem_append_right _ (List.mem_append_right _ (List.mem_append_right _ (List.mem_append_right _ (List.mem_append_right _ (List.mem_append_right _ (List.mem_append_right _ (List.mem_append_right _ (List.mem_append_right _ (List.mem_append_right _ (List.mem_append_right _ (List.mem_append_right _ (List.mem_append_right _ (List.mem_append_right _ (List.mem_append_right _ (List.mem_append_right _ (List.mem_append_right _ (List.mem_append_left _ h))))))))))))))))))))))))))))))))))))
theorem wl_26 : ∀ w ∈ wsL_law0_r26, w ∈ wsL_law := fun w h => List.mem_append_left _ (List.mem_append_left _ (List.mem_append_left _ (List.mem_append_left _ (List.mem_append_left _ (List.mem_append_left _ (List.mem_append_left _ (List.mem_append_left _ (List.mem_append_left _ (List.mem_append_left _ (List.mem_append_left _ (List.mem_append_left _ (List.mem_append_right _ (List.mem_append_right _ (List.mem_append_right _ (List.mem_append_right _ (List.mem_append_right _ (List.mem_append_right _ (List.mem_append_right _ (List.mem_append_right _ (List.mem_append_right _ (List.mem_append_right _ (List.mem_append_right _ (List.mem_append_right _ (List.mem_append_right _ (List.mem_append_right _ (List.mem_append_right _ (List.mem_append_right _ (List.mem_append_right _ (List.mem_append_right _ (List.mem_append_right _ (List.mem_append_right _ (List.mem_append_right _ (List.mem_append_right _ (List.mem_append_right _ (List.mem_append_right _ (List.mem_append_right _ (List.mem_append_left _ h)))))))))))))))))))))))))))))))))))))
theorem wl_27 : ∀ w ∈ wsL_law0_r27, w ∈ wsL_law := fun w h => List.mem_append_left _ (List.mem_append_left _ (List.mem_append_left _ (List.mem_append_left _ (List.mem_append_left _ (List.mem_append_left _ (List.mem_append_left _ (List.mem_append_left _ (List.mem_append_left _ (List.mem_append_left _ (List.mem_append_left _ (List.mem_append_left _ (List.mem_append_right _ (List.mem_append_right _ (List.mem_append_right _ (List.mem_append_right _ (List.mem_append_right _ (List.mem_append_right _ (List.mem_append_right _ (List.mem_append_right _ (List.mem_append_right _ (List.mem_append_right _ (List.mem_append_right _ (List.mem_append_right _ (List.mem_append_right _ (List.mem_append_right _ (List.mem_append_right _ (List.mem_append_right _ (List.mem_append_right _ (List.mem_append_right _ (List.mem_append_right _ (List.mem_append_right _ (List.mem_append_right _ (List.mem_append_right _ (List.mem_append_right _ (List.mem_append_right _ (List.mem_append_right _ (List.mem_append_right _ (List.mem_append_left _ h))))))))))))))))))))))))))))))))))))))
theorem wl_28 : ∀ w ∈ wsL_law0_r28, w ∈ wsL_law := fun w h => List.mem_append_left _ (List.mem_append_left _ (List.mem_append_left _ (List.mem_append_left _ (List.mem_append_left _ (List.mem_append_left _ (List.mem_append_left _ (List.mem_append_left _ (List.mem_append_left _ (List.mem_append_left _ (List.mem_append_left _ (List.mem_append_left _ (List.mem_append_right _ (List.mem_append_right _ (List.mem_append_right _ (List.mem_append_right _ (List.mem_append_right _ (List.mem_append_right _ (List.mem_append_right _ (List.mem_append_right _ (List.mem_append_right _ (List.mem_append_right _ (List.mem_append_right _ (List.mem_append_right _ (List.mem_append_right _ (List.mem_append_right _ (List.mem_append_right _ (List.mem_append_right _ (List.mem_append_right _ (List.mem_append_right _ (List.mem_append_right _ (List.mem_append_right _ (List.mem_append_right _ (List.mem_append_right _ (List.mem_append_right _ (List.mem_append_right _ (List.mem_append_right _ (List.mem_append_right _ (List.mem_append_right _ (List.mem_append_left _ h)))))))))))))))))))))))))))))))))))))))
theorem wl_29 : ∀ w ∈ wsL_law0_r29, w ∈ wsL_law := fun w h => List.mem_append_left _ (List.mem_append_left _ (List.mem_append_left _ (List.mem_append_left _ (List.mem_append_left _ (List.mem_append_left _ (List.mem_append_left _ (List.mem_append_left _ (List.mem_append_left _ (List.mem_append_left _ (List.mem_append_left _ (List.mem_append_left _ (List.mem_append_right _ (List.mem_append_right _ (List.mem_append_right _ (List.mem_append_right _ (List.mem_append_right _ (List.mem_append_right _ (List.mem_append_right _ (List.mem_append_right _ (List.mem_append_right _ (List.mem_append_right _ (List.mem_append_right _ (List.mem_append_right _ (List.mem_append_right _ (List.mem_append_right _ (List.mem_append_right _ (List.mem_append_right _ (List.mem_append_right _ (List.mem_append_right _ (List.mem_append_right _ (List.mem_append_right _ (List.mem_append_right _ (List.mem_append_right _ (List.mem_append_right _ (List.mem_append_right _ (List.mem_append_right _ (List.mem_append_right _ (List.mem_append_right _ (List.mem_append_right _ (List.mem_append_left _ h))))))))))))))))))))))))))))))))))))))))
theorem wl_30 : ∀ w ∈ wsL_law0_r30, w ∈ wsL_law := fun w h => List.mem_append_left _ (List.mem_append_left _ (List.mem_append_left _ (List.mem_append_left _ (List.mem_append_left _ (List.mem_append_left _ (List.mem_append_left _ (List.mem_append_left _ (List.mem_append_left _ (List.mem_append_left _ (List.mem_append_left _ (List.mem_append_left _ (List.mem_append_right _ (List.mem_append_right _ (List.mem_append_right _ (List.mem_append_right _ (List.mem_append_right _ (List.mem_append_right _ (List.mem_append_right _ (List.mem_append_right _ (List.mem_append_right _ (List.mem_append_right _ (List.mem_append_right _ (List.mem_append_right _ (List.mem_append_right _ (List.mem_append_right _ (List.mem_append_right _ (List.mem_append_right _ (List.mem_append_right _ (List.mem_append_right _ (List.mem_append_right _ (List.mem_append_right _ (List.mem_append_right _ (List.mem_append_right _ (List.mem_append_right _ (List.mem_append_right _ (List.mem_append_right _ (List.mem_append_right _ (List.mem_append_right _ (List.mem_append_right _ (List.mem_append_right _ (List.mem_append_left _ h)))))))))))))))))))))))))))))))))))))))))
theorem wl_31 : ∀ w ∈ wsL_law0_r31, w ∈ wsL_law := fun w h => List.mem_append_left _ (List.mem_append_left _ (List.mem_append_left _ (List.mem_append_left _ (List.mem_append_left _ (List.mem_append_left _ (List.mem_append_left _ (List.mem_append_left _ (List.mem_append_left _ (List.mem_append_left _ (List.mem_append_left _ (List.mem_append_left _ (List.mem_append_right _ (List.mem_append_right _ (List.mem_append_right _ (List.mem_append_right _ (List.mem_append_right _ (List.mem_append_right _ (List.mem_append_right _ (List.mem_append_right _ (List.mem_append_right _ (List.mem_append_right _ (List.mem_append_right _ (List.mem_append_right _ (List.mem_append_right _ (List.mem_append_right _ (List.mem_append_right _ (List.mem_append_right _ (List.mem_append_right _ (List.mem_append_right _ (List.mem_append_right _ (List.mem_append_right _ (List.mem_append_right _ (List.mem_append_right _ (List.mem_append_right _ (List.mem_append_right _ (List.mem_append_right _ (List.mem_append_right _ (List.mem_append_right _ (List.mem_append_right _ (List.mem_append_right _ (List.mem_append_right _ (List.mem_append_left _ h))))))))))))))))))))))))))))))))))))))))))
theorem wl_32 : ∀ w ∈ wsL_law0_r32, w ∈ wsL_law := fun w h => List.mem_append_left _ (List.mem_append_left _ (List.mem_append_left _ (List.mem_append_left _ (List.mem_append_left _ (List.mem_append_left _ (List.mem_append_left _ (List.mem_append_left _ (List.mem_append_left _ (List.mem_append_left _ (List.mem_append_left _ (List.mem_append_left _ (List.mem_append_right _ (List.mem_append_right _ (List.mem_append_right _ (List.mem_append_right _ (List.mem_append_right _ (List.mem_append_right _ (List.mem_append_right _ (List.mem_append_right _ (List.mem_append_right _ (List.mem_append_right _ (List.mem_append_right _ (List.mem_append_right _ (List.mem_append_right _ (List.mem_append_right _ (List.mem_append_right _ (List.mem_append_right _ (List.mem_append_right _ (List.mem_append_right _ (List.mem_append_right _ (List.mem_append_right _ (List.mem_append_right _ (List.mem_append_right _ (List.mem_append_right _ (List.mem_append_right _ (List.mem_append_right _ (List.mem_append_right _ (List.mem_append_right _ (List.mem_append_right _ (List.mem_append_right _ (List.mem_append_right _ (List.mem_append_right _ (h)))))))))))))))))))))))))))))))))))))))))))
theorem q_0 : Cond.classLink RL 8 RX4 ∈ wsL_law := wl_1 _ (List.mem_of_getElem? (i := 0) rfl)
theorem q_1 : Cond.instantiable RX4 7 ∈ wsL_law := wl_1 _ (List.mem_of_getElem? (i := 1) rfl)
theorem q_2 : Cond.initialized RX4 ∈ wsL_law := wl_1 _ (List.mem_of_getElem? (i := 2) rfl)
theorem q_3 : Cond.classLink RL 63 RX5 ∈ wsL_law := wl_1 _ (List.mem_of_getElem? (i := 3) rfl)
theorem q_4 : Cond.instantiable RX5 11 ∈ wsL_law := wl_1 _ (List.mem_of_getElem? (i := 4) rfl)
theorem q_5 : Cond.initialized RX5 ∈ wsL_law := wl_1 _ (List.mem_of_getElem? (i := 5) rfl)
theorem q_6 : Cond.arrayClass .long ∈ wsL_law := wl_1 _ (List.mem_of_getElem? (i := 6) rfl)
theorem q_7 : Cond.methodLink RL 62 yX4_init ∈ wsL_law := wl_1 _ (List.mem_of_getElem? (i := 7) rfl)
theorem q_8 : Cond.instanceMethod yX4_init ∈ wsL_law := wl_1 _ (List.mem_of_getElem? (i := 8) rfl)
theorem q_9 : Cond.code yX4_init cX4_init 1 none ∈ wsL_law := wl_1 _ (List.mem_of_getElem? (i := 9) rfl)
theorem q_10 : Cond.methodLink RX4 3 objectInit ∈ wsL_law := wl_1 _ (List.mem_of_getElem? (i := 10) rfl)
theorem q_11 : Cond.instanceMethod objectInit ∈ wsL_law := wl_1 _ (List.mem_of_getElem? (i := 11) rfl)
theorem q_12 : Cond.code objectInit ⟨#[0xb1]⟩ 1 none ∈ wsL_law := wl_1 _ (List.mem_of_getElem? (i := 12) rfl)
theorem q_13 : Cond.classLink RX4 9 RX1 ∈ wsL_law := wl_1 _ (List.mem_of_getElem? (i := 13) rfl)
theorem q_14 : Cond.instantiable RX1 5 ∈ wsL_law := wl_1 _ (List.mem_of_getElem? (i := 14) rfl)
theorem q_15 : Cond.initialized RX1 ∈ wsL_law := wl_1 _ (List.mem_of_getElem? (i := 15) rfl)
theorem q_16 : Cond.fieldLink RX4 12 "MarketAwnings" "canopy" "LMarketAwnings$Canopy;" ∈ wsL_law := wl_1 _ (List.mem_of_getElem? (i := 16) rfl)
theorem q_17 : Cond.classLink RX4 16 RX2 ∈ wsL_law := wl_1 _ (List.mem_of_getElem? (i := 17) rfl)
theorem q_18 : Cond.instantiable RX2 5 ∈ wsL_law := wl_1 _ (List.mem_of_getElem? (i := 18) rfl)
theorem q_19 : Cond.initialized RX2 ∈ wsL_law := wl_1 _ (List.mem_of_getElem? (i := 19) rfl)
theorem q_20 : Cond.fieldLink RX4 21 "MarketAwnings" "shower" "LMarketAwnings$Shower;" ∈ wsL_law := wl_1 _ (List.mem_of_getElem? (i := 20) rfl)
theorem q_21 : Cond.classLink RX4 25 RJx4a65c ∈ wsL_law := wl_1 _ (List.mem_of_getElem? (i := 21) rfl)
theorem q_22 : Cond.instantiable RJx4a65c 3 ∈ wsL_law := wl_1 _ (List.mem_of_getElem? (i := 22) rfl)
theorem q_23 : Cond.initialized RJx4a65c ∈ wsL_law := wl_1 _ (List.mem_of_getElem? (i := 23) rfl)
theorem q_24 : Cond.fieldLink RX4 28 "MarketAwnings" "stalls" "Ljava/util/ArrayList;" ∈ wsL_law := wl_2 _ (List.mem_of_getElem? (i := 0) rfl)
theorem q_25 : Cond.arrayClass .int ∈ wsL_law := wl_2 _ (List.mem_of_getElem? (i := 1) rfl)
theorem q_26 : Cond.fieldLink RX4 32 "MarketAwnings" "ground" "[I" ∈ wsL_law := wl_2 _ (List.mem_of_getElem? (i := 2) rfl)
theorem q_27 : Cond.fieldLink RX4 36 "MarketAwnings" "hours" "I" ∈ wsL_law := wl_2 _ (List.mem_of_getElem? (i := 3) rfl)
theorem q_28 : Cond.fieldLink RX4 40 "MarketAwnings" "groundDrops" "I" ∈ wsL_law := wl_2 _ (List.mem_of_getElem? (i := 4) rfl)
theorem q_29 : Cond.fieldLink RX4 43 "MarketAwnings" "offDrops" "I" ∈ wsL_law := wl_2 _ (List.mem_of_getElem? (i := 5) rfl)
theorem q_30 : Cond.methodLink RX4 11 yX1_init ∈ wsL_law := wl_2 _ (List.mem_of_getElem? (i := 6) rfl)
theorem q_31 : Cond.instanceMethod yX1_init ∈ wsL_law := wl_2 _ (List.mem_of_getElem? (i := 7) rfl)
theorem q_32 : Cond.code yX1_init cX1_init 1 none ∈ wsL_law := wl_2 _ (List.mem_of_getElem? (i := 8) rfl)
theorem q_33 : Cond.methodLink RX1 3 objectInit ∈ wsL_law := wl_2 _ (List.mem_of_getElem? (i := 9) rfl)
theorem q_34 : Cond.classLink RX1 9 RJx4a65c ∈ wsL_law := wl_2 _ (List.mem_of_getElem? (i := 10) rfl)
theorem q_35 : Cond.fieldLink RX1 12 "MarketAwnings$Canopy" "awnings" "Ljava/util/ArrayList;" ∈ wsL_law := wl_2 _ (List.mem_of_getElem? (i := 11) rfl)
theorem q_36 : Cond.fieldLink RX1 18 "MarketAwnings$Canopy" "layers" "[I" ∈ wsL_law := wl_2 _ (List.mem_of_getElem? (i := 12) rfl)
theorem q_37 : Cond.fieldLink RX1 22 "MarketAwnings$Canopy" "reached" "[I" ∈ wsL_law := wl_2 _ (List.mem_of_getElem? (i := 13) rfl)
theorem q_38 : Cond.fieldLink RX1 25 "MarketAwnings$Canopy" "queue" "[I" ∈ wsL_law := wl_2 _ (List.mem_of_getElem? (i := 14) rfl)
theorem q_39 : Cond.fieldLink RX1 28 "MarketAwnings$Canopy" "queued" "I" ∈ wsL_law := wl_2 _ (List.mem_of_getElem? (i := 15) rfl)
theorem q_40 : Cond.methodLink RX1 11 yJx4a65c_init_da8c8 ∈ wsL_law := wl_2 _ (List.mem_of_getElem? (i := 16) rfl)
theorem q_41 : Cond.instanceMethod yJx4a65c_init_da8c8 ∈ wsL_law := wl_2 _ (List.mem_of_getElem? (i := 17) rfl)
theorem q_42 : Cond.code yJx4a65c_init_da8c8 cJx4a65c_init_da8c8 1 none ∈ wsL_law := wl_2 _ (List.mem_of_getElem? (i := 18) rfl)
theorem q_43 : Cond.fieldLink RJx4a65c 39 "java/util/ArrayList" "DEFAULTCAPACITY_EMPTY_ELEMENTDATA" "[Ljava/lang/Object;" ∈ wsL_law := wl_2 _ (List.mem_of_getElem? (i := 19) rfl)
theorem q_44 : Cond.fieldLink RJx4a65c 9 "java/util/ArrayList" "elementData" "[Ljava/lang/Object;" ∈ wsL_law := wl_2 _ (List.mem_of_getElem? (i := 20) rfl)
theorem q_45 : Cond.methodLink RJx4a65c 1 yJxc12de_init_da8c8 ∈ wsL_law := wl_2 _ (List.mem_of_getElem? (i := 21) rfl)
theorem q_46 : Cond.instanceMethod yJxc12de_init_da8c8 ∈ wsL_law := wl_2 _ (List.mem_of_getElem? (i := 22) rfl)
theorem q_47 : Cond.initialized RJxc12de ∈ wsL_law := wl_2 _ (List.mem_of_getElem? (i := 23) rfl)
theorem q_48 : Cond.code yJxc12de_init_da8c8 cJxc12de_init_da8c8 1 none ∈ wsL_law := wl_3 _ (List.mem_of_getElem? (i := 0) rfl)
theorem q_49 : Cond.fieldLink RJxc12de 7 "java/util/AbstractList" "modCount" "I" ∈ wsL_law := wl_3 _ (List.mem_of_getElem? (i := 1) rfl)
theorem q_50 : Cond.methodLink RJxc12de 1 yJxa1e45_init_da8c8 ∈ wsL_law := wl_3 _ (List.mem_of_getElem? (i := 2) rfl)
theorem q_51 : Cond.instanceMethod yJxa1e45_init_da8c8 ∈ wsL_law := wl_3 _ (List.mem_of_getElem? (i := 3) rfl)
theorem q_52 : Cond.initialized RJxa1e45 ∈ wsL_law := wl_3 _ (List.mem_of_getElem? (i := 4) rfl)
theorem q_53 : Cond.code yJxa1e45_init_da8c8 cJxa1e45_init_da8c8 1 none ∈ wsL_law := wl_3 _ (List.mem_of_getElem? (i := 5) rfl)
theorem q_54 : Cond.methodLink RJxa1e45 1 objectInit ∈ wsL_law := wl_3 _ (List.mem_of_getElem? (i := 6) rfl)
theorem q_55 : Cond.methodLink RX4 18 yX2_init ∈ wsL_law := wl_3 _ (List.mem_of_getElem? (i := 7) rfl)
theorem q_56 : Cond.instanceMethod yX2_init ∈ wsL_law := wl_3 _ (List.mem_of_getElem? (i := 8) rfl)
theorem q_57 : Cond.code yX2_init cX2_init 2 none ∈ wsL_law := wl_3 _ (List.mem_of_getElem? (i := 9) rfl)
theorem q_58 : Cond.methodLink RX2 3 objectInit ∈ wsL_law := wl_3 _ (List.mem_of_getElem? (i := 10) rfl)
theorem q_59 : Cond.fieldLink RX2 9 "MarketAwnings$Shower" "canopy" "LMarketAwnings$Canopy;" ∈ wsL_law := wl_3 _ (List.mem_of_getElem? (i := 11) rfl)
theorem q_60 : Cond.fieldLink RX2 15 "MarketAwnings$Shower" "fallen" "[I" ∈ wsL_law := wl_3 _ (List.mem_of_getElem? (i := 12) rfl)
theorem q_61 : Cond.fieldLink RX2 19 "MarketAwnings$Shower" "caught" "[I" ∈ wsL_law := wl_3 _ (List.mem_of_getElem? (i := 13) rfl)
theorem q_62 : Cond.fieldLink RX2 22 "MarketAwnings$Shower" "onGround" "I" ∈ wsL_law := wl_3 _ (List.mem_of_getElem? (i := 14) rfl)
theorem q_63 : Cond.fieldLink RX2 26 "MarketAwnings$Shower" "ranOff" "I" ∈ wsL_law := wl_3 _ (List.mem_of_getElem? (i := 15) rfl)
theorem q_64 : Cond.methodLink RX4 27 yJx4a65c_init_da8c8 ∈ wsL_law := wl_3 _ (List.mem_of_getElem? (i := 16) rfl)
theorem q_65 : Cond.methodLink RL 65 yX5_init ∈ wsL_law := wl_3 _ (List.mem_of_getElem? (i := 17) rfl)
theorem q_66 : Cond.instanceMethod yX5_init ∈ wsL_law := wl_3 _ (List.mem_of_getElem? (i := 18) rfl)
theorem q_67 : Cond.code yX5_init cX5_init 1 none ∈ wsL_law := wl_3 _ (List.mem_of_getElem? (i := 19) rfl)
theorem q_68 : Cond.methodLink RX5 1 objectInit ∈ wsL_law := wl_3 _ (List.mem_of_getElem? (i := 20) rfl)
theorem q_69 : Cond.fieldLink RX5 9 "MarketAwningsModel" "sheet" "[I" ∈ wsL_law := wl_3 _ (List.mem_of_getElem? (i := 21) rfl)
theorem q_70 : Cond.fieldLink RX5 13 "MarketAwningsModel" "at" "[I" ∈ wsL_law := wl_3 _ (List.mem_of_getElem? (i := 22) rfl)
theorem q_71 : Cond.fieldLink RX5 16 "MarketAwningsModel" "had" "[I" ∈ wsL_law := wl_3 _ (List.mem_of_getElem? (i := 23) rfl)
theorem q_72 : Cond.fieldLink RX5 19 "MarketAwningsModel" "ground" "[I" ∈ wsL_law := wl_4 _ (List.mem_of_getElem? (i := 0) rfl)
theorem q_73 : Cond.fieldLink RX5 22 "MarketAwningsModel" "fell" "[I" ∈ wsL_law := wl_4 _ (List.mem_of_getElem? (i := 1) rfl)
theorem q_74 : Cond.fieldLink RX5 25 "MarketAwningsModel" "load" "[I" ∈ wsL_law := wl_4 _ (List.mem_of_getElem? (i := 2) rfl)
theorem q_75 : Cond.methodLink RL 66 yL_hang ∈ wsL_law := wl_4 _ (List.mem_of_getElem? (i := 3) rfl)
theorem q_76 : Cond.static yL_hang ∈ wsL_law := wl_4 _ (List.mem_of_getElem? (i := 4) rfl)
theorem q_77 : Cond.initialized RL ∈ wsL_law := wl_4 _ (List.mem_of_getElem? (i := 5) rfl)
theorem q_78 : Cond.codeWith yL_hang cL_hang 9 (some .int) [(0, 18, 21, 13), (0, 18, 25, 15), (0, 18, 29, 17)] ∈ wsL_law := wl_4 _ (List.mem_of_getElem? (i := 6) rfl)
theorem q_79 : Cond.classLink RL 13 "java/lang/IllegalArgumentException" ∈ wsL_law := wl_4 _ (List.mem_of_getElem? (i := 7) rfl)
theorem q_80 : Cond.classLink RL 15 "java/lang/IndexOutOfBoundsException" ∈ wsL_law := wl_4 _ (List.mem_of_getElem? (i := 8) rfl)
theorem q_81 : Cond.classLink RL 17 "java/lang/IllegalStateException" ∈ wsL_law := wl_4 _ (List.mem_of_getElem? (i := 9) rfl)
theorem q_82 : Cond.methodLink RL 7 yX4_hang ∈ wsL_law := wl_4 _ (List.mem_of_getElem? (i := 10) rfl)
theorem q_83 : Cond.instanceMethod yX4_hang ∈ wsL_law := wl_4 _ (List.mem_of_getElem? (i := 11) rfl)
theorem q_84 : Cond.selects RX4 yX4_hang yX4_hang ∈ wsL_law := wl_4 _ (List.mem_of_getElem? (i := 12) rfl)
theorem q_85 : Cond.code yX4_hang cX4_hang 7 (some .int) ∈ wsL_law := wl_4 _ (List.mem_of_getElem? (i := 13) rfl)
theorem q_86 : Cond.classLink RX4 50 "java/lang/IllegalArgumentException" ∈ wsL_law := wl_4 _ (List.mem_of_getElem? (i := 14) rfl)
theorem q_87 : Cond.initialized "java/lang/IllegalArgumentException" ∈ wsL_law := wl_4 _ (List.mem_of_getElem? (i := 15) rfl)
theorem q_88 : Cond.classLink RX4 67 "java/lang/IllegalStateException" ∈ wsL_law := wl_4 _ (List.mem_of_getElem? (i := 16) rfl)
theorem q_89 : Cond.initialized "java/lang/IllegalStateException" ∈ wsL_law := wl_4 _ (List.mem_of_getElem? (i := 17) rfl)
theorem q_90 : Cond.classLink RX4 72 RX0 ∈ wsL_law := wl_4 _ (List.mem_of_getElem? (i := 18) rfl)
theorem q_91 : Cond.instantiable RX0 8 ∈ wsL_law := wl_4 _ (List.mem_of_getElem? (i := 19) rfl)
theorem q_92 : Cond.initialized RX0 ∈ wsL_law := wl_4 _ (List.mem_of_getElem? (i := 20) rfl)
theorem q_93 : Cond.methodLink RX4 46 yX4_requireExtent ∈ wsL_law := wl_4 _ (List.mem_of_getElem? (i := 21) rfl)
theorem q_94 : Cond.static yX4_requireExtent ∈ wsL_law := wl_4 _ (List.mem_of_getElem? (i := 22) rfl)
theorem q_95 : Cond.code yX4_requireExtent cX4_requireExtent 2 none ∈ wsL_law := wl_4 _ (List.mem_of_getElem? (i := 23) rfl)
theorem q_96 : Cond.methodLink RX4 59 yX4_requireRoomInSquare ∈ wsL_law := wl_5 _ (List.mem_of_getElem? (i := 0) rfl)
theorem q_97 : Cond.static yX4_requireRoomInSquare ∈ wsL_law := wl_5 _ (List.mem_of_getElem? (i := 1) rfl)
theorem q_98 : Cond.code yX4_requireRoomInSquare cX4_requireRoomInSquare 4 none ∈ wsL_law := wl_5 _ (List.mem_of_getElem? (i := 2) rfl)
theorem q_99 : Cond.classLink RX4 178 "java/lang/IndexOutOfBoundsException" ∈ wsL_law := wl_5 _ (List.mem_of_getElem? (i := 3) rfl)
theorem q_100 : Cond.initialized "java/lang/IndexOutOfBoundsException" ∈ wsL_law := wl_5 _ (List.mem_of_getElem? (i := 4) rfl)
theorem q_101 : Cond.methodLink RX4 63 yX1_size ∈ wsL_law := wl_5 _ (List.mem_of_getElem? (i := 5) rfl)
theorem q_102 : Cond.instanceMethod yX1_size ∈ wsL_law := wl_5 _ (List.mem_of_getElem? (i := 6) rfl)
theorem q_103 : Cond.selects RX1 yX1_size yX1_size ∈ wsL_law := wl_5 _ (List.mem_of_getElem? (i := 7) rfl)
theorem q_104 : Cond.code yX1_size cX1_size 1 (some .int) ∈ wsL_law := wl_5 _ (List.mem_of_getElem? (i := 8) rfl)
theorem q_105 : Cond.methodLink RX1 32 yJx4a65c_size_8abf5 ∈ wsL_law := wl_5 _ (List.mem_of_getElem? (i := 9) rfl)
theorem q_106 : Cond.instanceMethod yJx4a65c_size_8abf5 ∈ wsL_law := wl_5 _ (List.mem_of_getElem? (i := 10) rfl)
theorem q_107 : Cond.selects RJx4a65c yJx4a65c_size_8abf5 yJx4a65c_size_8abf5 ∈ wsL_law := wl_5 _ (List.mem_of_getElem? (i := 11) rfl)
theorem q_108 : Cond.code yJx4a65c_size_8abf5 cJx4a65c_size_8abf5 1 (some .int) ∈ wsL_law := wl_5 _ (List.mem_of_getElem? (i := 12) rfl)
theorem q_109 : Cond.fieldLink RJx4a65c 48 "java/util/ArrayList" "size" "I" ∈ wsL_law := wl_5 _ (List.mem_of_getElem? (i := 13) rfl)
theorem q_110 : Cond.methodLink RX4 74 yX0_init ∈ wsL_law := wl_5 _ (List.mem_of_getElem? (i := 14) rfl)
theorem q_111 : Cond.instanceMethod yX0_init ∈ wsL_law := wl_5 _ (List.mem_of_getElem? (i := 15) rfl)
theorem q_112 : Cond.code yX0_init cX0_init 7 none ∈ wsL_law := wl_5 _ (List.mem_of_getElem? (i := 16) rfl)
theorem q_113 : Cond.methodLink RX0 3 objectInit ∈ wsL_law := wl_5 _ (List.mem_of_getElem? (i := 17) rfl)
theorem q_114 : Cond.fieldLink RX0 9 "MarketAwnings$Awning" "x" "I" ∈ wsL_law := wl_5 _ (List.mem_of_getElem? (i := 18) rfl)
theorem q_115 : Cond.fieldLink RX0 15 "MarketAwnings$Awning" "y" "I" ∈ wsL_law := wl_5 _ (List.mem_of_getElem? (i := 19) rfl)
theorem q_116 : Cond.fieldLink RX0 18 "MarketAwnings$Awning" "w" "I" ∈ wsL_law := wl_5 _ (List.mem_of_getElem? (i := 20) rfl)
theorem q_117 : Cond.fieldLink RX0 21 "MarketAwnings$Awning" "h" "I" ∈ wsL_law := wl_5 _ (List.mem_of_getElem? (i := 21) rfl)
theorem q_118 : Cond.fieldLink RX0 24 "MarketAwnings$Awning" "level" "I" ∈ wsL_law := wl_5 _ (List.mem_of_getElem? (i := 22) rfl)
theorem q_119 : Cond.fieldLink RX0 27 "MarketAwnings$Awning" "side" "I" ∈ wsL_law := wl_5 _ (List.mem_of_getElem? (i := 23) rfl)
theorem q_120 : Cond.fieldLink RX0 30 "MarketAwnings$Awning" "out" "Z" ∈ wsL_law := wl_6 _ (List.mem_of_getElem? (i := 0) rfl)
theorem q_121 : Cond.fieldLink RX0 34 "MarketAwnings$Awning" "dripped" "I" ∈ wsL_law := wl_6 _ (List.mem_of_getElem? (i := 1) rfl)
theorem q_122 : Cond.methodLink RX4 77 yX1_append ∈ wsL_law := wl_6 _ (List.mem_of_getElem? (i := 2) rfl)
theorem q_123 : Cond.instanceMethod yX1_append ∈ wsL_law := wl_6 _ (List.mem_of_getElem? (i := 3) rfl)
theorem q_124 : Cond.selects RX1 yX1_append yX1_append ∈ wsL_law := wl_6 _ (List.mem_of_getElem? (i := 4) rfl)
theorem q_125 : Cond.code yX1_append cX1_append 2 none ∈ wsL_law := wl_6 _ (List.mem_of_getElem? (i := 5) rfl)
theorem q_126 : Cond.methodLink RX1 53 yJx4a65c_add_9ea2d ∈ wsL_law := wl_6 _ (List.mem_of_getElem? (i := 6) rfl)
theorem q_127 : Cond.instanceMethod yJx4a65c_add_9ea2d ∈ wsL_law := wl_6 _ (List.mem_of_getElem? (i := 7) rfl)
theorem q_128 : Cond.selects RJx4a65c yJx4a65c_add_9ea2d yJx4a65c_add_9ea2d ∈ wsL_law := wl_6 _ (List.mem_of_getElem? (i := 8) rfl)
theorem q_129 : Cond.code yJx4a65c_add_9ea2d cJx4a65c_add_9ea2d 2 (some .boolean) ∈ wsL_law := wl_6 _ (List.mem_of_getElem? (i := 9) rfl)
theorem q_130 : Cond.fieldLink RJx4a65c 63 "java/util/ArrayList" "modCount" "I" ∈ wsL_law := wl_6 _ (List.mem_of_getElem? (i := 10) rfl)
theorem q_131 : Cond.sameField "java/util/ArrayList" "java/util/AbstractList" "modCount" "I" ∈ wsL_law := wl_6 _ (List.mem_of_getElem? (i := 11) rfl)
theorem q_132 : Cond.methodLink RJx4a65c 131 yJx4a65c_add_72be8 ∈ wsL_law := wl_6 _ (List.mem_of_getElem? (i := 12) rfl)
theorem q_133 : Cond.instanceMethod yJx4a65c_add_72be8 ∈ wsL_law := wl_6 _ (List.mem_of_getElem? (i := 13) rfl)
theorem q_134 : Cond.selects RJx4a65c yJx4a65c_add_72be8 yJx4a65c_add_72be8 ∈ wsL_law := wl_6 _ (List.mem_of_getElem? (i := 14) rfl)
theorem q_135 : Cond.code yJx4a65c_add_72be8 cJx4a65c_add_72be8 4 none ∈ wsL_law := wl_6 _ (List.mem_of_getElem? (i := 15) rfl)
theorem q_136 : Cond.methodLink RJx4a65c 129 yJx4a65c_grow_d5877 ∈ wsL_law := wl_6 _ (List.mem_of_getElem? (i := 16) rfl)
theorem q_137 : Cond.instanceMethod yJx4a65c_grow_d5877 ∈ wsL_law := wl_6 _ (List.mem_of_getElem? (i := 17) rfl)
theorem q_138 : Cond.selects RJx4a65c yJx4a65c_grow_d5877 yJx4a65c_grow_d5877 ∈ wsL_law := wl_6 _ (List.mem_of_getElem? (i := 18) rfl)
theorem q_139 : Cond.code yJx4a65c_grow_d5877 cJx4a65c_grow_d5877 1 (some (.array (.object "java/lang/Object"))) ∈ wsL_law := wl_6 _ (List.mem_of_getElem? (i := 19) rfl)
theorem q_140 : Cond.methodLink RJx4a65c 69 yJx4a65c_grow_92f84 ∈ wsL_law := wl_6 _ (List.mem_of_getElem? (i := 20) rfl)
theorem q_141 : Cond.instanceMethod yJx4a65c_grow_92f84 ∈ wsL_law := wl_6 _ (List.mem_of_getElem? (i := 21) rfl)
theorem q_142 : Cond.selects RJx4a65c yJx4a65c_grow_92f84 yJx4a65c_grow_92f84 ∈ wsL_law := wl_6 _ (List.mem_of_getElem? (i := 22) rfl)
theorem q_143 : Cond.code yJx4a65c_grow_92f84 cJx4a65c_grow_92f84 4 (some (.array (.object "java/lang/Object"))) ∈ wsL_law := wl_6 _ (List.mem_of_getElem? (i := 23) rfl)
theorem q_144 : Cond.methodLink RJx4a65c 79 Lib.Math.max.name ∈ wsL_law := wl_7 _ (List.mem_of_getElem? (i := 0) rfl)
theorem q_145 : Cond.static Lib.Math.max.name ∈ wsL_law := wl_7 _ (List.mem_of_getElem? (i := 1) rfl)
theorem q_146 : Cond.initialized "java/lang/Math" ∈ wsL_law := wl_7 _ (List.mem_of_getElem? (i := 2) rfl)
theorem q_147 : Cond.code Lib.Math.max.name Lib.Math.max.code 2 (some .int) ∈ wsL_law := wl_7 _ (List.mem_of_getElem? (i := 3) rfl)
theorem q_148 : Cond.classLink RJx4a65c 7 "java/lang/Object" ∈ wsL_law := wl_7 _ (List.mem_of_getElem? (i := 4) rfl)
theorem q_149 : Cond.methodLink RJx4a65c 73 yJ8_newLength_cabcc ∈ wsL_law := wl_7 _ (List.mem_of_getElem? (i := 5) rfl)
theorem q_150 : Cond.static yJ8_newLength_cabcc ∈ wsL_law := wl_7 _ (List.mem_of_getElem? (i := 6) rfl)
theorem q_151 : Cond.initialized RJ8 ∈ wsL_law := wl_7 _ (List.mem_of_getElem? (i := 7) rfl)
theorem q_152 : Cond.code yJ8_newLength_cabcc cJ8_newLength_cabcc 4 (some .int) ∈ wsL_law := wl_7 _ (List.mem_of_getElem? (i := 8) rfl)
theorem q_153 : Cond.methodLink RJ8 194 Lib.Math.max.name ∈ wsL_law := wl_7 _ (List.mem_of_getElem? (i := 9) rfl)
theorem q_154 : Cond.constant RJ8 200 (2147483639) ∈ wsL_law := wl_7 _ (List.mem_of_getElem? (i := 10) rfl)
theorem q_155 : Cond.methodLink RJ8 201 yJ8_hugeLength_7cf53 ∈ wsL_law := wl_7 _ (List.mem_of_getElem? (i := 11) rfl)
theorem q_156 : Cond.static yJ8_hugeLength_7cf53 ∈ wsL_law := wl_7 _ (List.mem_of_getElem? (i := 12) rfl)
theorem q_157 : Cond.code yJ8_hugeLength_7cf53 cJ8_hugeLength_7cf53 3 (some .int) ∈ wsL_law := wl_7 _ (List.mem_of_getElem? (i := 13) rfl)
theorem q_158 : Cond.methodLink RJx4a65c 66 yJ7_copyOf_1904c ∈ wsL_law := wl_7 _ (List.mem_of_getElem? (i := 14) rfl)
theorem q_159 : Cond.static yJ7_copyOf_1904c ∈ wsL_law := wl_7 _ (List.mem_of_getElem? (i := 15) rfl)
theorem q_160 : Cond.initialized RJ7 ∈ wsL_law := wl_7 _ (List.mem_of_getElem? (i := 16) rfl)
theorem q_161 : Cond.code yJ7_copyOf_1904c cJ7_copyOf_1904c 2 (some (.array (.object "java/lang/Object"))) ∈ wsL_law := wl_7 _ (List.mem_of_getElem? (i := 17) rfl)
theorem q_162 : Cond.methodLink RJ7 86 ⟨"java/lang/Object", "getClass", "()Ljava/lang/Class;"⟩ ∈ wsL_law := wl_7 _ (List.mem_of_getElem? (i := 18) rfl)
theorem q_163 : Cond.selects "[Ljava/lang/Object;" ⟨"java/lang/Object", "getClass", "()Ljava/lang/Class;"⟩ ⟨"java/lang/Object", "getClass", "()Ljava/lang/Class;"⟩ ∈ wsL_law := wl_7 _ (List.mem_of_getElem? (i := 19) rfl)
theorem q_164 : Cond.instanceMethod ⟨"java/lang/Object", "getClass", "()Ljava/lang/Class;"⟩ ∈ wsL_law := wl_7 _ (List.mem_of_getElem? (i := 20) rfl)
theorem q_165 : Cond.native ⟨"java/lang/Object", "getClass", "()Ljava/lang/Class;"⟩ ∈ wsL_law := wl_7 _ (List.mem_of_getElem? (i := 21) rfl)
theorem q_166 : Cond.methodLink RJ7 300 yJ7_copyOf_6403c ∈ wsL_law := wl_7 _ (List.mem_of_getElem? (i := 22) rfl)
theorem q_167 : Cond.static yJ7_copyOf_6403c ∈ wsL_law := wl_7 _ (List.mem_of_getElem? (i := 23) rfl)
theorem q_168 : Cond.code yJ7_copyOf_6403c cJ7_copyOf_6403c 4 (some (.array (.object "java/lang/Object"))) ∈ wsL_law := wl_8 _ (List.mem_of_getElem? (i := 0) rfl)
theorem q_169 : Cond.classLink RJ7 110 "[Ljava/lang/Object;" ∈ wsL_law := wl_8 _ (List.mem_of_getElem? (i := 1) rfl)
theorem q_170 : Cond.classLink RJ7 2 "java/lang/Object" ∈ wsL_law := wl_8 _ (List.mem_of_getElem? (i := 2) rfl)
theorem q_171 : Cond.methodLink RJ7 304 Lib.Math.min.name ∈ wsL_law := wl_8 _ (List.mem_of_getElem? (i := 3) rfl)
theorem q_172 : Cond.static Lib.Math.min.name ∈ wsL_law := wl_8 _ (List.mem_of_getElem? (i := 4) rfl)
theorem q_173 : Cond.code Lib.Math.min.name Lib.Math.min.code 2 (some .int) ∈ wsL_law := wl_8 _ (List.mem_of_getElem? (i := 5) rfl)
theorem q_174 : Cond.methodLink RJ7 150 arraycopyName ∈ wsL_law := wl_8 _ (List.mem_of_getElem? (i := 6) rfl)
theorem q_175 : Cond.native arraycopyName ∈ wsL_law := wl_8 _ (List.mem_of_getElem? (i := 7) rfl)
theorem q_176 : Cond.static arraycopyName ∈ wsL_law := wl_8 _ (List.mem_of_getElem? (i := 8) rfl)
theorem q_177 : Cond.initialized "java/lang/System" ∈ wsL_law := wl_8 _ (List.mem_of_getElem? (i := 9) rfl)
theorem q_178 : Cond.methodLink RX1 57 yX1_layOut ∈ wsL_law := wl_8 _ (List.mem_of_getElem? (i := 10) rfl)
theorem q_179 : Cond.instanceMethod yX1_layOut ∈ wsL_law := wl_8 _ (List.mem_of_getElem? (i := 11) rfl)
theorem q_180 : Cond.selects RX1 yX1_layOut yX1_layOut ∈ wsL_law := wl_8 _ (List.mem_of_getElem? (i := 12) rfl)
theorem q_181 : Cond.code yX1_layOut cX1_layOut 2 none ∈ wsL_law := wl_8 _ (List.mem_of_getElem? (i := 13) rfl)
theorem q_182 : Cond.classLink RX1 40 "MarketAwnings$Awning" ∈ wsL_law := wl_8 _ (List.mem_of_getElem? (i := 14) rfl)
theorem q_183 : Cond.fieldLink RX1 42 "MarketAwnings$Awning" "out" "Z" ∈ wsL_law := wl_8 _ (List.mem_of_getElem? (i := 15) rfl)
theorem q_184 : Cond.methodLink RX1 63 yJ7_fill_53178 ∈ wsL_law := wl_8 _ (List.mem_of_getElem? (i := 16) rfl)
theorem q_185 : Cond.static yJ7_fill_53178 ∈ wsL_law := wl_8 _ (List.mem_of_getElem? (i := 17) rfl)
theorem q_186 : Cond.code yJ7_fill_53178 cJ7_fill_53178 4 none ∈ wsL_law := wl_8 _ (List.mem_of_getElem? (i := 18) rfl)
theorem q_187 : Cond.methodLink RX1 36 yJx4a65c_get_915e3 ∈ wsL_law := wl_8 _ (List.mem_of_getElem? (i := 19) rfl)
theorem q_188 : Cond.instanceMethod yJx4a65c_get_915e3 ∈ wsL_law := wl_8 _ (List.mem_of_getElem? (i := 20) rfl)
theorem q_189 : Cond.selects RJx4a65c yJx4a65c_get_915e3 yJx4a65c_get_915e3 ∈ wsL_law := wl_8 _ (List.mem_of_getElem? (i := 21) rfl)
theorem q_190 : Cond.code yJx4a65c_get_915e3 cJx4a65c_get_915e3 2 (some (.object "java/lang/Object")) ∈ wsL_law := wl_8 _ (List.mem_of_getElem? (i := 22) rfl)
theorem q_191 : Cond.methodLink RJx4a65c 118 yJ15_checkIndex_7cf53 ∈ wsL_law := wl_8 _ (List.mem_of_getElem? (i := 23) rfl)
theorem q_192 : Cond.static yJ15_checkIndex_7cf53 ∈ wsL_law := wl_9 _ (List.mem_of_getElem? (i := 0) rfl)
theorem q_193 : Cond.initialized RJ15 ∈ wsL_law := wl_9 _ (List.mem_of_getElem? (i := 1) rfl)
theorem q_194 : Cond.code yJ15_checkIndex_7cf53 cJ15_checkIndex_7cf53 2 (some .int) ∈ wsL_law := wl_9 _ (List.mem_of_getElem? (i := 2) rfl)
theorem q_195 : Cond.methodLink RJ15 105 yJ3_checkIndex_8e157 ∈ wsL_law := wl_9 _ (List.mem_of_getElem? (i := 3) rfl)
theorem q_196 : Cond.static yJ3_checkIndex_8e157 ∈ wsL_law := wl_9 _ (List.mem_of_getElem? (i := 4) rfl)
theorem q_197 : Cond.initialized RJ3 ∈ wsL_law := wl_9 _ (List.mem_of_getElem? (i := 5) rfl)
theorem q_198 : Cond.code yJ3_checkIndex_8e157 cJ3_checkIndex_8e157 3 (some .int) ∈ wsL_law := wl_9 _ (List.mem_of_getElem? (i := 6) rfl)
theorem q_199 : Cond.methodLink RJx4a65c 123 yJx4a65c_elementData_915e3 ∈ wsL_law := wl_9 _ (List.mem_of_getElem? (i := 7) rfl)
theorem q_200 : Cond.instanceMethod yJx4a65c_elementData_915e3 ∈ wsL_law := wl_9 _ (List.mem_of_getElem? (i := 8) rfl)
theorem q_201 : Cond.selects RJx4a65c yJx4a65c_elementData_915e3 yJx4a65c_elementData_915e3 ∈ wsL_law := wl_9 _ (List.mem_of_getElem? (i := 9) rfl)
theorem q_202 : Cond.code yJx4a65c_elementData_915e3 cJx4a65c_elementData_915e3 2 (some (.object "java/lang/Object")) ∈ wsL_law := wl_9 _ (List.mem_of_getElem? (i := 10) rfl)
theorem q_203 : Cond.methodLink RX1 69 yX1_layOver ∈ wsL_law := wl_9 _ (List.mem_of_getElem? (i := 11) rfl)
theorem q_204 : Cond.instanceMethod yX1_layOver ∈ wsL_law := wl_9 _ (List.mem_of_getElem? (i := 12) rfl)
theorem q_205 : Cond.selects RX1 yX1_layOver yX1_layOver ∈ wsL_law := wl_9 _ (List.mem_of_getElem? (i := 13) rfl)
theorem q_206 : Cond.code yX1_layOver cX1_layOver 4 none ∈ wsL_law := wl_9 _ (List.mem_of_getElem? (i := 14) rfl)
theorem q_207 : Cond.fieldLink RX1 73 "MarketAwnings$Awning" "y" "I" ∈ wsL_law := wl_9 _ (List.mem_of_getElem? (i := 15) rfl)
theorem q_208 : Cond.fieldLink RX1 76 "MarketAwnings$Awning" "h" "I" ∈ wsL_law := wl_9 _ (List.mem_of_getElem? (i := 16) rfl)
theorem q_209 : Cond.fieldLink RX1 79 "MarketAwnings$Awning" "x" "I" ∈ wsL_law := wl_9 _ (List.mem_of_getElem? (i := 17) rfl)
theorem q_210 : Cond.fieldLink RX1 82 "MarketAwnings$Awning" "w" "I" ∈ wsL_law := wl_9 _ (List.mem_of_getElem? (i := 18) rfl)
theorem q_211 : Cond.static yX4_isCell ∈ wsL_law := wl_9 _ (List.mem_of_getElem? (i := 19) rfl)
theorem q_212 : Cond.code yX4_isCell cX4_isCell 2 (some .boolean) ∈ wsL_law := wl_9 _ (List.mem_of_getElem? (i := 20) rfl)
theorem q_213 : Cond.methodLink RL 71 yX5_hang ∈ wsL_law := wl_9 _ (List.mem_of_getElem? (i := 21) rfl)
theorem q_214 : Cond.instanceMethod yX5_hang ∈ wsL_law := wl_9 _ (List.mem_of_getElem? (i := 22) rfl)
theorem q_215 : Cond.selects RX5 yX5_hang yX5_hang ∈ wsL_law := wl_9 _ (List.mem_of_getElem? (i := 23) rfl)
theorem q_216 : Cond.code yX5_hang cX5_hang 8 (some .int) ∈ wsL_law := wl_10 _ (List.mem_of_getElem? (i := 0) rfl)
theorem q_217 : Cond.fieldLink RX5 28 "MarketAwningsModel" "thrown" "I" ∈ wsL_law := wl_10 _ (List.mem_of_getElem? (i := 1) rfl)
theorem q_218 : Cond.fieldLink RX5 36 "MarketAwningsModel" "awnings" "I" ∈ wsL_law := wl_10 _ (List.mem_of_getElem? (i := 2) rfl)
theorem q_219 : Cond.methodLink RX5 85 arraycopyName ∈ wsL_law := wl_10 _ (List.mem_of_getElem? (i := 3) rfl)
theorem q_220 : Cond.methodLink RX5 32 yX5_isIn ∈ wsL_law := wl_10 _ (List.mem_of_getElem? (i := 4) rfl)
theorem q_221 : Cond.static yX5_isIn ∈ wsL_law := wl_10 _ (List.mem_of_getElem? (i := 5) rfl)
theorem q_222 : Cond.code yX5_isIn cX5_isIn 3 (some .boolean) ∈ wsL_law := wl_10 _ (List.mem_of_getElem? (i := 6) rfl)
theorem q_223 : Cond.methodLink RX5 78 yX5_no ∈ wsL_law := wl_10 _ (List.mem_of_getElem? (i := 7) rfl)
theorem q_224 : Cond.instanceMethod yX5_no ∈ wsL_law := wl_10 _ (List.mem_of_getElem? (i := 8) rfl)
theorem q_225 : Cond.selects RX5 yX5_no yX5_no ∈ wsL_law := wl_10 _ (List.mem_of_getElem? (i := 9) rfl)
theorem q_226 : Cond.code yX5_no cX5_no 2 (some .int) ∈ wsL_law := wl_10 _ (List.mem_of_getElem? (i := 10) rfl)
theorem q_227 : Cond.methodLink RX5 81 yX5_fits ∈ wsL_law := wl_10 _ (List.mem_of_getElem? (i := 11) rfl)
theorem q_228 : Cond.static yX5_fits ∈ wsL_law := wl_10 _ (List.mem_of_getElem? (i := 12) rfl)
theorem q_229 : Cond.code yX5_fits cX5_fits 4 (some .boolean) ∈ wsL_law := wl_10 _ (List.mem_of_getElem? (i := 13) rfl)
theorem q_230 : Cond.methodLink RL 72 yX5_thrown ∈ wsL_law := wl_10 _ (List.mem_of_getElem? (i := 14) rfl)
theorem q_231 : Cond.instanceMethod yX5_thrown ∈ wsL_law := wl_10 _ (List.mem_of_getElem? (i := 15) rfl)
theorem q_232 : Cond.selects RX5 yX5_thrown yX5_thrown ∈ wsL_law := wl_10 _ (List.mem_of_getElem? (i := 16) rfl)
theorem q_233 : Cond.code yX5_thrown cX5_thrown 1 (some .int) ∈ wsL_law := wl_10 _ (List.mem_of_getElem? (i := 17) rfl)
theorem q_234 : Cond.methodLink RL 76 yL_roll ∈ wsL_law := wl_10 _ (List.mem_of_getElem? (i := 18) rfl)
theorem q_235 : Cond.static yL_roll ∈ wsL_law := wl_10 _ (List.mem_of_getElem? (i := 19) rfl)
theorem q_236 : Cond.codeWith yL_roll cL_roll 4 (some .int) [(0, 16, 19, 15)] ∈ wsL_law := wl_10 _ (List.mem_of_getElem? (i := 20) rfl)
theorem q_237 : Cond.methodLink RL 19 yX4_roll ∈ wsL_law := wl_10 _ (List.mem_of_getElem? (i := 21) rfl)
theorem q_238 : Cond.instanceMethod yX4_roll ∈ wsL_law := wl_10 _ (List.mem_of_getElem? (i := 22) rfl)
theorem q_239 : Cond.selects RX4 yX4_roll yX4_roll ∈ wsL_law := wl_10 _ (List.mem_of_getElem? (i := 23) rfl)
theorem q_240 : Cond.code yX4_roll cX4_roll 3 (some .boolean) ∈ wsL_law := wl_11 _ (List.mem_of_getElem? (i := 0) rfl)
theorem q_241 : Cond.fieldLink RX4 85 "MarketAwnings$Awning" "out" "Z" ∈ wsL_law := wl_11 _ (List.mem_of_getElem? (i := 1) rfl)
theorem q_242 : Cond.methodLink RX4 81 yX1_numbered ∈ wsL_law := wl_11 _ (List.mem_of_getElem? (i := 2) rfl)
theorem q_243 : Cond.instanceMethod yX1_numbered ∈ wsL_law := wl_11 _ (List.mem_of_getElem? (i := 3) rfl)
theorem q_244 : Cond.selects RX1 yX1_numbered yX1_numbered ∈ wsL_law := wl_11 _ (List.mem_of_getElem? (i := 4) rfl)
theorem q_245 : Cond.code yX1_numbered cX1_numbered 2 (some (.object "MarketAwnings$Awning")) ∈ wsL_law := wl_11 _ (List.mem_of_getElem? (i := 5) rfl)
theorem q_246 : Cond.classLink RX1 46 "java/lang/IndexOutOfBoundsException" ∈ wsL_law := wl_11 _ (List.mem_of_getElem? (i := 6) rfl)
theorem q_247 : Cond.methodLink RX4 89 yX1_layOut ∈ wsL_law := wl_11 _ (List.mem_of_getElem? (i := 7) rfl)
theorem q_248 : Cond.methodLink RL 79 yX5_roll ∈ wsL_law := wl_11 _ (List.mem_of_getElem? (i := 8) rfl)
theorem q_249 : Cond.instanceMethod yX5_roll ∈ wsL_law := wl_11 _ (List.mem_of_getElem? (i := 9) rfl)
theorem q_250 : Cond.selects RX5 yX5_roll yX5_roll ∈ wsL_law := wl_11 _ (List.mem_of_getElem? (i := 10) rfl)
theorem q_251 : Cond.code yX5_roll cX5_roll 2 (some .boolean) ∈ wsL_law := wl_11 _ (List.mem_of_getElem? (i := 11) rfl)
theorem q_252 : Cond.methodLink RX5 91 yX5_isAwning ∈ wsL_law := wl_11 _ (List.mem_of_getElem? (i := 12) rfl)
theorem q_253 : Cond.instanceMethod yX5_isAwning ∈ wsL_law := wl_11 _ (List.mem_of_getElem? (i := 13) rfl)
theorem q_254 : Cond.selects RX5 yX5_isAwning yX5_isAwning ∈ wsL_law := wl_11 _ (List.mem_of_getElem? (i := 14) rfl)
theorem q_255 : Cond.code yX5_isAwning cX5_isAwning 2 (some .boolean) ∈ wsL_law := wl_11 _ (List.mem_of_getElem? (i := 15) rfl)
theorem q_256 : Cond.methodLink RX5 42 yX5_of ∈ wsL_law := wl_11 _ (List.mem_of_getElem? (i := 16) rfl)
theorem q_257 : Cond.instanceMethod yX5_of ∈ wsL_law := wl_11 _ (List.mem_of_getElem? (i := 17) rfl)
theorem q_258 : Cond.selects RX5 yX5_of yX5_of ∈ wsL_law := wl_11 _ (List.mem_of_getElem? (i := 18) rfl)
theorem q_259 : Cond.code yX5_of cX5_of 3 (some .int) ∈ wsL_law := wl_11 _ (List.mem_of_getElem? (i := 19) rfl)
theorem q_260 : Cond.methodLink RX5 46 yX5_isOut ∈ wsL_law := wl_11 _ (List.mem_of_getElem? (i := 20) rfl)
theorem q_261 : Cond.instanceMethod yX5_isOut ∈ wsL_law := wl_11 _ (List.mem_of_getElem? (i := 21) rfl)
theorem q_262 : Cond.selects RX5 yX5_isOut yX5_isOut ∈ wsL_law := wl_11 _ (List.mem_of_getElem? (i := 22) rfl)
theorem q_263 : Cond.code yX5_isOut cX5_isOut 2 (some .boolean) ∈ wsL_law := wl_11 _ (List.mem_of_getElem? (i := 23) rfl)
theorem q_264 : Cond.methodLink RL 80 yL_move ∈ wsL_law := wl_12 _ (List.mem_of_getElem? (i := 0) rfl)
theorem q_265 : Cond.static yL_move ∈ wsL_law := wl_12 _ (List.mem_of_getElem? (i := 1) rfl)
theorem q_266 : Cond.codeWith yL_move cL_move 6 (some .int) [(0, 12, 15, 15)] ∈ wsL_law := wl_12 _ (List.mem_of_getElem? (i := 2) rfl)
theorem q_267 : Cond.methodLink RL 23 yX4_move ∈ wsL_law := wl_12 _ (List.mem_of_getElem? (i := 3) rfl)
theorem q_268 : Cond.instanceMethod yX4_move ∈ wsL_law := wl_12 _ (List.mem_of_getElem? (i := 4) rfl)
theorem q_269 : Cond.selects RX4 yX4_move yX4_move ∈ wsL_law := wl_12 _ (List.mem_of_getElem? (i := 5) rfl)
theorem q_270 : Cond.code yX4_move cX4_move 5 (some .int) ∈ wsL_law := wl_12 _ (List.mem_of_getElem? (i := 6) rfl)
theorem q_271 : Cond.fieldLink RX4 92 "MarketAwnings$Awning" "w" "I" ∈ wsL_law := wl_12 _ (List.mem_of_getElem? (i := 7) rfl)
theorem q_272 : Cond.fieldLink RX4 95 "MarketAwnings$Awning" "h" "I" ∈ wsL_law := wl_12 _ (List.mem_of_getElem? (i := 8) rfl)
theorem q_273 : Cond.fieldLink RX4 98 "MarketAwnings$Awning" "x" "I" ∈ wsL_law := wl_12 _ (List.mem_of_getElem? (i := 9) rfl)
theorem q_274 : Cond.fieldLink RX4 101 "MarketAwnings$Awning" "y" "I" ∈ wsL_law := wl_12 _ (List.mem_of_getElem? (i := 10) rfl)
theorem q_275 : Cond.methodLink RX4 104 yX1_covered ∈ wsL_law := wl_12 _ (List.mem_of_getElem? (i := 11) rfl)
theorem q_276 : Cond.instanceMethod yX1_covered ∈ wsL_law := wl_12 _ (List.mem_of_getElem? (i := 12) rfl)
theorem q_277 : Cond.selects RX1 yX1_covered yX1_covered ∈ wsL_law := wl_12 _ (List.mem_of_getElem? (i := 13) rfl)
theorem q_278 : Cond.code yX1_covered cX1_covered 1 (some .int) ∈ wsL_law := wl_12 _ (List.mem_of_getElem? (i := 14) rfl)
theorem q_279 : Cond.methodLink RX1 95 yX1_cellsWithLayers ∈ wsL_law := wl_12 _ (List.mem_of_getElem? (i := 15) rfl)
theorem q_280 : Cond.instanceMethod yX1_cellsWithLayers ∈ wsL_law := wl_12 _ (List.mem_of_getElem? (i := 16) rfl)
theorem q_281 : Cond.selects RX1 yX1_cellsWithLayers yX1_cellsWithLayers ∈ wsL_law := wl_12 _ (List.mem_of_getElem? (i := 17) rfl)
theorem q_282 : Cond.code yX1_cellsWithLayers cX1_cellsWithLayers 4 (some .int) ∈ wsL_law := wl_12 _ (List.mem_of_getElem? (i := 18) rfl)
theorem q_283 : Cond.methodLink RL 83 yX5_move ∈ wsL_law := wl_12 _ (List.mem_of_getElem? (i := 19) rfl)
theorem q_284 : Cond.instanceMethod yX5_move ∈ wsL_law := wl_12 _ (List.mem_of_getElem? (i := 20) rfl)
theorem q_285 : Cond.selects RX5 yX5_move yX5_move ∈ wsL_law := wl_12 _ (List.mem_of_getElem? (i := 21) rfl)
theorem q_286 : Cond.code yX5_move cX5_move 4 (some .int) ∈ wsL_law := wl_12 _ (List.mem_of_getElem? (i := 22) rfl)
theorem q_287 : Cond.methodLink RX5 94 yX5_counted ∈ wsL_law := wl_12 _ (List.mem_of_getElem? (i := 23) rfl)
theorem q_288 : Cond.instanceMethod yX5_counted ∈ wsL_law := wl_13 _ (List.mem_of_getElem? (i := 0) rfl)
theorem q_289 : Cond.selects RX5 yX5_counted yX5_counted ∈ wsL_law := wl_13 _ (List.mem_of_getElem? (i := 1) rfl)
theorem q_290 : Cond.code yX5_counted cX5_counted 2 (some .int) ∈ wsL_law := wl_13 _ (List.mem_of_getElem? (i := 2) rfl)
theorem q_291 : Cond.fieldLink RX5 39 "MarketAwningsModel" "stalls" "I" ∈ wsL_law := wl_13 _ (List.mem_of_getElem? (i := 3) rfl)
theorem q_292 : Cond.fieldLink RX5 106 "MarketAwningsModel" "hours" "I" ∈ wsL_law := wl_13 _ (List.mem_of_getElem? (i := 4) rfl)
theorem q_293 : Cond.fieldLink RX5 103 "MarketAwningsModel" "ranOff" "I" ∈ wsL_law := wl_13 _ (List.mem_of_getElem? (i := 5) rfl)
theorem q_294 : Cond.methodLink RX5 153 yX5_out ∈ wsL_law := wl_13 _ (List.mem_of_getElem? (i := 6) rfl)
theorem q_295 : Cond.instanceMethod yX5_out ∈ wsL_law := wl_13 _ (List.mem_of_getElem? (i := 7) rfl)
theorem q_296 : Cond.selects RX5 yX5_out yX5_out ∈ wsL_law := wl_13 _ (List.mem_of_getElem? (i := 8) rfl)
theorem q_297 : Cond.code yX5_out cX5_out 3 (some .int) ∈ wsL_law := wl_13 _ (List.mem_of_getElem? (i := 9) rfl)
theorem q_298 : Cond.methodLink RX5 157 yX5_outline ∈ wsL_law := wl_13 _ (List.mem_of_getElem? (i := 10) rfl)
theorem q_299 : Cond.instanceMethod yX5_outline ∈ wsL_law := wl_13 _ (List.mem_of_getElem? (i := 11) rfl)
theorem q_300 : Cond.selects RX5 yX5_outline yX5_outline ∈ wsL_law := wl_13 _ (List.mem_of_getElem? (i := 12) rfl)
theorem q_301 : Cond.code yX5_outline cX5_outline 4 (some .int) ∈ wsL_law := wl_13 _ (List.mem_of_getElem? (i := 13) rfl)
theorem q_302 : Cond.methodLink RX5 129 yX5_covered_ ∈ wsL_law := wl_13 _ (List.mem_of_getElem? (i := 14) rfl)
theorem q_303 : Cond.instanceMethod yX5_covered_ ∈ wsL_law := wl_13 _ (List.mem_of_getElem? (i := 15) rfl)
theorem q_304 : Cond.selects RX5 yX5_covered_ yX5_covered_ ∈ wsL_law := wl_13 _ (List.mem_of_getElem? (i := 16) rfl)
theorem q_305 : Cond.code yX5_covered_ cX5_covered_ 2 (some .int) ∈ wsL_law := wl_13 _ (List.mem_of_getElem? (i := 17) rfl)
theorem q_306 : Cond.methodLink RX5 56 yX5_covered ∈ wsL_law := wl_13 _ (List.mem_of_getElem? (i := 18) rfl)
theorem q_307 : Cond.instanceMethod yX5_covered ∈ wsL_law := wl_13 _ (List.mem_of_getElem? (i := 19) rfl)
theorem q_308 : Cond.selects RX5 yX5_covered yX5_covered ∈ wsL_law := wl_13 _ (List.mem_of_getElem? (i := 20) rfl)
theorem q_309 : Cond.code yX5_covered cX5_covered 5 (some .int) ∈ wsL_law := wl_13 _ (List.mem_of_getElem? (i := 21) rfl)
theorem q_310 : Cond.methodLink RX5 53 yX5_bits ∈ wsL_law := wl_13 _ (List.mem_of_getElem? (i := 22) rfl)
theorem q_311 : Cond.instanceMethod yX5_bits ∈ wsL_law := wl_13 _ (List.mem_of_getElem? (i := 23) rfl)
theorem q_312 : Cond.selects RX5 yX5_bits yX5_bits ∈ wsL_law := wl_14 _ (List.mem_of_getElem? (i := 0) rfl)
theorem q_313 : Cond.code yX5_bits cX5_bits 3 (some .int) ∈ wsL_law := wl_14 _ (List.mem_of_getElem? (i := 1) rfl)
theorem q_314 : Cond.methodLink RX5 50 yX5_rows ∈ wsL_law := wl_14 _ (List.mem_of_getElem? (i := 2) rfl)
theorem q_315 : Cond.static yX5_rows ∈ wsL_law := wl_14 _ (List.mem_of_getElem? (i := 3) rfl)
theorem q_316 : Cond.code yX5_rows cX5_rows 2 (some .int) ∈ wsL_law := wl_14 _ (List.mem_of_getElem? (i := 4) rfl)
theorem q_317 : Cond.methodLink RX5 109 yX5_many ∈ wsL_law := wl_14 _ (List.mem_of_getElem? (i := 5) rfl)
theorem q_318 : Cond.static yX5_many ∈ wsL_law := wl_14 _ (List.mem_of_getElem? (i := 6) rfl)
theorem q_319 : Cond.code yX5_many cX5_many 3 (some .int) ∈ wsL_law := wl_14 _ (List.mem_of_getElem? (i := 7) rfl)
theorem q_320 : Cond.methodLink RX5 160 yX5_parts ∈ wsL_law := wl_14 _ (List.mem_of_getElem? (i := 8) rfl)
theorem q_321 : Cond.instanceMethod yX5_parts ∈ wsL_law := wl_14 _ (List.mem_of_getElem? (i := 9) rfl)
theorem q_322 : Cond.selects RX5 yX5_parts yX5_parts ∈ wsL_law := wl_14 _ (List.mem_of_getElem? (i := 10) rfl)
theorem q_323 : Cond.code yX5_parts cX5_parts 7 (some .int) ∈ wsL_law := wl_14 _ (List.mem_of_getElem? (i := 11) rfl)
theorem q_324 : Cond.methodLink RX5 149 yX5_spreads ∈ wsL_law := wl_14 _ (List.mem_of_getElem? (i := 12) rfl)
theorem q_325 : Cond.static yX5_spreads ∈ wsL_law := wl_14 _ (List.mem_of_getElem? (i := 13) rfl)
theorem q_326 : Cond.code yX5_spreads cX5_spreads 5 (some .boolean) ∈ wsL_law := wl_14 _ (List.mem_of_getElem? (i := 14) rfl)
theorem q_327 : Cond.methodLink RX5 163 yX5_open ∈ wsL_law := wl_14 _ (List.mem_of_getElem? (i := 15) rfl)
theorem q_328 : Cond.instanceMethod yX5_open ∈ wsL_law := wl_14 _ (List.mem_of_getElem? (i := 16) rfl)
theorem q_329 : Cond.selects RX5 yX5_open yX5_open ∈ wsL_law := wl_14 _ (List.mem_of_getElem? (i := 17) rfl)
theorem q_330 : Cond.code yX5_open cX5_open 3 (some .int) ∈ wsL_law := wl_14 _ (List.mem_of_getElem? (i := 18) rfl)
theorem q_331 : Cond.methodLink RX5 146 yX5_stallTold ∈ wsL_law := wl_14 _ (List.mem_of_getElem? (i := 19) rfl)
theorem q_332 : Cond.instanceMethod yX5_stallTold ∈ wsL_law := wl_14 _ (List.mem_of_getElem? (i := 20) rfl)
theorem q_333 : Cond.selects RX5 yX5_stallTold yX5_stallTold ∈ wsL_law := wl_14 _ (List.mem_of_getElem? (i := 21) rfl)
theorem q_334 : Cond.code yX5_stallTold cX5_stallTold 3 (some .int) ∈ wsL_law := wl_14 _ (List.mem_of_getElem? (i := 22) rfl)
theorem q_335 : Cond.methodLink RX5 140 yX5_got ∈ wsL_law := wl_14 _ (List.mem_of_getElem? (i := 23) rfl)
theorem q_336 : Cond.instanceMethod yX5_got ∈ wsL_law := wl_15 _ (List.mem_of_getElem? (i := 0) rfl)
theorem q_337 : Cond.selects RX5 yX5_got yX5_got ∈ wsL_law := wl_15 _ (List.mem_of_getElem? (i := 1) rfl)
theorem q_338 : Cond.code yX5_got cX5_got 2 (some .int) ∈ wsL_law := wl_15 _ (List.mem_of_getElem? (i := 2) rfl)
theorem q_339 : Cond.methodLink RX5 118 yX5_lying ∈ wsL_law := wl_15 _ (List.mem_of_getElem? (i := 3) rfl)
theorem q_340 : Cond.instanceMethod yX5_lying ∈ wsL_law := wl_15 _ (List.mem_of_getElem? (i := 4) rfl)
theorem q_341 : Cond.selects RX5 yX5_lying yX5_lying ∈ wsL_law := wl_15 _ (List.mem_of_getElem? (i := 5) rfl)
theorem q_342 : Cond.code yX5_lying cX5_lying 5 (some .int) ∈ wsL_law := wl_15 _ (List.mem_of_getElem? (i := 6) rfl)
theorem q_343 : Cond.methodLink RX5 166 yX5_sumOf ∈ wsL_law := wl_15 _ (List.mem_of_getElem? (i := 7) rfl)
theorem q_344 : Cond.instanceMethod yX5_sumOf ∈ wsL_law := wl_15 _ (List.mem_of_getElem? (i := 8) rfl)
theorem q_345 : Cond.selects RX5 yX5_sumOf yX5_sumOf ∈ wsL_law := wl_15 _ (List.mem_of_getElem? (i := 9) rfl)
theorem q_346 : Cond.code yX5_sumOf cX5_sumOf 5 (some .int) ∈ wsL_law := wl_15 _ (List.mem_of_getElem? (i := 10) rfl)
theorem q_347 : Cond.methodLink RL 84 yL_take ∈ wsL_law := wl_15 _ (List.mem_of_getElem? (i := 11) rfl)
theorem q_348 : Cond.static yL_take ∈ wsL_law := wl_15 _ (List.mem_of_getElem? (i := 12) rfl)
theorem q_349 : Cond.codeWith yL_take cL_take 4 (some .int) [(0, 9, 12, 15)] ∈ wsL_law := wl_15 _ (List.mem_of_getElem? (i := 13) rfl)
theorem q_350 : Cond.methodLink RL 27 yX4_take ∈ wsL_law := wl_15 _ (List.mem_of_getElem? (i := 14) rfl)
theorem q_351 : Cond.instanceMethod yX4_take ∈ wsL_law := wl_15 _ (List.mem_of_getElem? (i := 15) rfl)
theorem q_352 : Cond.selects RX4 yX4_take yX4_take ∈ wsL_law := wl_15 _ (List.mem_of_getElem? (i := 16) rfl)
theorem q_353 : Cond.code yX4_take cX4_take 2 (some .int) ∈ wsL_law := wl_15 _ (List.mem_of_getElem? (i := 17) rfl)
theorem q_354 : Cond.methodLink RX4 107 yX1_drop ∈ wsL_law := wl_15 _ (List.mem_of_getElem? (i := 18) rfl)
theorem q_355 : Cond.instanceMethod yX1_drop ∈ wsL_law := wl_15 _ (List.mem_of_getElem? (i := 19) rfl)
theorem q_356 : Cond.selects RX1 yX1_drop yX1_drop ∈ wsL_law := wl_15 _ (List.mem_of_getElem? (i := 20) rfl)
theorem q_357 : Cond.code yX1_drop cX1_drop 2 none ∈ wsL_law := wl_15 _ (List.mem_of_getElem? (i := 21) rfl)
theorem q_358 : Cond.methodLink RX1 60 yJx4a65c_remove_915e3 ∈ wsL_law := wl_15 _ (List.mem_of_getElem? (i := 22) rfl)
theorem q_359 : Cond.instanceMethod yJx4a65c_remove_915e3 ∈ wsL_law := wl_15 _ (List.mem_of_getElem? (i := 23) rfl)
theorem q_360 : Cond.selects RJx4a65c yJx4a65c_remove_915e3 yJx4a65c_remove_915e3 ∈ wsL_law := wl_16 _ (List.mem_of_getElem? (i := 0) rfl)
theorem q_361 : Cond.code yJx4a65c_remove_915e3 cJx4a65c_remove_915e3 4 (some (.object "java/lang/Object")) ∈ wsL_law := wl_16 _ (List.mem_of_getElem? (i := 1) rfl)
theorem q_362 : Cond.methodLink RJx4a65c 144 yJx4a65c_fastRemove_b59b0 ∈ wsL_law := wl_16 _ (List.mem_of_getElem? (i := 2) rfl)
theorem q_363 : Cond.instanceMethod yJx4a65c_fastRemove_b59b0 ∈ wsL_law := wl_16 _ (List.mem_of_getElem? (i := 3) rfl)
theorem q_364 : Cond.selects RJx4a65c yJx4a65c_fastRemove_b59b0 yJx4a65c_fastRemove_b59b0 ∈ wsL_law := wl_16 _ (List.mem_of_getElem? (i := 4) rfl)
theorem q_365 : Cond.code yJx4a65c_fastRemove_b59b0 cJx4a65c_fastRemove_b59b0 4 none ∈ wsL_law := wl_16 _ (List.mem_of_getElem? (i := 5) rfl)
theorem q_366 : Cond.methodLink RJx4a65c 112 arraycopyName ∈ wsL_law := wl_16 _ (List.mem_of_getElem? (i := 6) rfl)
theorem q_367 : Cond.methodLink RL 86 yX5_take ∈ wsL_law := wl_16 _ (List.mem_of_getElem? (i := 7) rfl)
theorem q_368 : Cond.instanceMethod yX5_take ∈ wsL_law := wl_16 _ (List.mem_of_getElem? (i := 8) rfl)
theorem q_369 : Cond.selects RX5 yX5_take yX5_take ∈ wsL_law := wl_16 _ (List.mem_of_getElem? (i := 9) rfl)
theorem q_370 : Cond.code yX5_take cX5_take 3 (some .int) ∈ wsL_law := wl_16 _ (List.mem_of_getElem? (i := 10) rfl)
theorem q_371 : Cond.methodLink RL 87 yL_stall ∈ wsL_law := wl_16 _ (List.mem_of_getElem? (i := 11) rfl)
theorem q_372 : Cond.static yL_stall ∈ wsL_law := wl_16 _ (List.mem_of_getElem? (i := 12) rfl)
theorem q_373 : Cond.codeWith yL_stall cL_stall 5 (some .int) [(0, 10, 13, 15), (0, 10, 17, 17)] ∈ wsL_law := wl_16 _ (List.mem_of_getElem? (i := 13) rfl)
theorem q_374 : Cond.methodLink RL 31 yX4_stall ∈ wsL_law := wl_16 _ (List.mem_of_getElem? (i := 14) rfl)
theorem q_375 : Cond.instanceMethod yX4_stall ∈ wsL_law := wl_16 _ (List.mem_of_getElem? (i := 15) rfl)
theorem q_376 : Cond.selects RX4 yX4_stall yX4_stall ∈ wsL_law := wl_16 _ (List.mem_of_getElem? (i := 16) rfl)
theorem q_377 : Cond.code yX4_stall cX4_stall 3 (some .int) ∈ wsL_law := wl_16 _ (List.mem_of_getElem? (i := 17) rfl)
theorem q_378 : Cond.classLink RX4 123 RX3 ∈ wsL_law := wl_16 _ (List.mem_of_getElem? (i := 18) rfl)
theorem q_379 : Cond.instantiable RX3 3 ∈ wsL_law := wl_16 _ (List.mem_of_getElem? (i := 19) rfl)
theorem q_380 : Cond.initialized RX3 ∈ wsL_law := wl_16 _ (List.mem_of_getElem? (i := 20) rfl)
theorem q_381 : Cond.methodLink RX4 111 yX4_requireCell ∈ wsL_law := wl_16 _ (List.mem_of_getElem? (i := 21) rfl)
theorem q_382 : Cond.static yX4_requireCell ∈ wsL_law := wl_16 _ (List.mem_of_getElem? (i := 22) rfl)
theorem q_383 : Cond.code yX4_requireCell cX4_requireCell 2 none ∈ wsL_law := wl_16 _ (List.mem_of_getElem? (i := 23) rfl)
theorem q_384 : Cond.methodLink RX4 264 yX4_isCell ∈ wsL_law := wl_17 _ (List.mem_of_getElem? (i := 0) rfl)
theorem q_385 : Cond.methodLink RX4 114 yJx4a65c_size_8abf5 ∈ wsL_law := wl_17 _ (List.mem_of_getElem? (i := 1) rfl)
theorem q_386 : Cond.methodLink RX4 117 yX4_hasStallAt ∈ wsL_law := wl_17 _ (List.mem_of_getElem? (i := 2) rfl)
theorem q_387 : Cond.instanceMethod yX4_hasStallAt ∈ wsL_law := wl_17 _ (List.mem_of_getElem? (i := 3) rfl)
theorem q_388 : Cond.selects RX4 yX4_hasStallAt yX4_hasStallAt ∈ wsL_law := wl_17 _ (List.mem_of_getElem? (i := 4) rfl)
theorem q_389 : Cond.code yX4_hasStallAt cX4_hasStallAt 5 (some .boolean) ∈ wsL_law := wl_17 _ (List.mem_of_getElem? (i := 5) rfl)
theorem q_390 : Cond.classLink RX4 123 "MarketAwnings$Stall" ∈ wsL_law := wl_17 _ (List.mem_of_getElem? (i := 6) rfl)
theorem q_391 : Cond.fieldLink RX4 199 "MarketAwnings$Stall" "x" "I" ∈ wsL_law := wl_17 _ (List.mem_of_getElem? (i := 7) rfl)
theorem q_392 : Cond.fieldLink RX4 200 "MarketAwnings$Stall" "y" "I" ∈ wsL_law := wl_17 _ (List.mem_of_getElem? (i := 8) rfl)
theorem q_393 : Cond.methodLink RX4 257 yJx4a65c_get_915e3 ∈ wsL_law := wl_17 _ (List.mem_of_getElem? (i := 9) rfl)
theorem q_394 : Cond.methodLink RX4 125 yX4_groundAt ∈ wsL_law := wl_17 _ (List.mem_of_getElem? (i := 10) rfl)
theorem q_395 : Cond.instanceMethod yX4_groundAt ∈ wsL_law := wl_17 _ (List.mem_of_getElem? (i := 11) rfl)
theorem q_396 : Cond.selects RX4 yX4_groundAt yX4_groundAt ∈ wsL_law := wl_17 _ (List.mem_of_getElem? (i := 12) rfl)
theorem q_397 : Cond.code yX4_groundAt cX4_groundAt 3 (some .int) ∈ wsL_law := wl_17 _ (List.mem_of_getElem? (i := 13) rfl)
theorem q_398 : Cond.methodLink RX4 129 yX3_init ∈ wsL_law := wl_17 _ (List.mem_of_getElem? (i := 14) rfl)
theorem q_399 : Cond.instanceMethod yX3_init ∈ wsL_law := wl_17 _ (List.mem_of_getElem? (i := 15) rfl)
theorem q_400 : Cond.code yX3_init cX3_init 4 none ∈ wsL_law := wl_17 _ (List.mem_of_getElem? (i := 16) rfl)
theorem q_401 : Cond.methodLink RX3 1 objectInit ∈ wsL_law := wl_17 _ (List.mem_of_getElem? (i := 17) rfl)
theorem q_402 : Cond.fieldLink RX3 7 "MarketAwnings$Stall" "x" "I" ∈ wsL_law := wl_17 _ (List.mem_of_getElem? (i := 18) rfl)
theorem q_403 : Cond.fieldLink RX3 13 "MarketAwnings$Stall" "y" "I" ∈ wsL_law := wl_17 _ (List.mem_of_getElem? (i := 19) rfl)
theorem q_404 : Cond.fieldLink RX3 16 "MarketAwnings$Stall" "groundBefore" "I" ∈ wsL_law := wl_17 _ (List.mem_of_getElem? (i := 20) rfl)
theorem q_405 : Cond.methodLink RX4 132 yJx4a65c_add_9ea2d ∈ wsL_law := wl_17 _ (List.mem_of_getElem? (i := 21) rfl)
theorem q_406 : Cond.methodLink RL 90 yX5_stall ∈ wsL_law := wl_17 _ (List.mem_of_getElem? (i := 22) rfl)
theorem q_407 : Cond.instanceMethod yX5_stall ∈ wsL_law := wl_17 _ (List.mem_of_getElem? (i := 23) rfl)
theorem q_408 : Cond.selects RX5 yX5_stall yX5_stall ∈ wsL_law := wl_18 _ (List.mem_of_getElem? (i := 0) rfl)
theorem q_409 : Cond.code yX5_stall cX5_stall 5 (some .int) ∈ wsL_law := wl_18 _ (List.mem_of_getElem? (i := 1) rfl)
theorem q_410 : Cond.methodLink RX5 97 yX5_isCell ∈ wsL_law := wl_18 _ (List.mem_of_getElem? (i := 2) rfl)
theorem q_411 : Cond.static yX5_isCell ∈ wsL_law := wl_18 _ (List.mem_of_getElem? (i := 3) rfl)
theorem q_412 : Cond.code yX5_isCell cX5_isCell 2 (some .boolean) ∈ wsL_law := wl_18 _ (List.mem_of_getElem? (i := 4) rfl)
theorem q_413 : Cond.methodLink RL 91 yL_rain ∈ wsL_law := wl_18 _ (List.mem_of_getElem? (i := 5) rfl)
theorem q_414 : Cond.static yL_rain ∈ wsL_law := wl_18 _ (List.mem_of_getElem? (i := 6) rfl)
theorem q_415 : Cond.codeWith yL_rain cL_rain 4 (some .int) [(0, 9, 12, 13)] ∈ wsL_law := wl_18 _ (List.mem_of_getElem? (i := 7) rfl)
theorem q_416 : Cond.methodLink RL 35 yX4_rain ∈ wsL_law := wl_18 _ (List.mem_of_getElem? (i := 8) rfl)
theorem q_417 : Cond.instanceMethod yX4_rain ∈ wsL_law := wl_18 _ (List.mem_of_getElem? (i := 9) rfl)
theorem q_418 : Cond.selects RX4 yX4_rain yX4_rain ∈ wsL_law := wl_18 _ (List.mem_of_getElem? (i := 10) rfl)
theorem q_419 : Cond.code yX4_rain cX4_rain 4 (some .int) ∈ wsL_law := wl_18 _ (List.mem_of_getElem? (i := 11) rfl)
theorem q_420 : Cond.fieldLink RX4 145 "MarketAwnings$Awning" "dripped" "I" ∈ wsL_law := wl_18 _ (List.mem_of_getElem? (i := 12) rfl)
theorem q_421 : Cond.fieldLink RX4 152 "MarketAwnings$Shower" "onGround" "I" ∈ wsL_law := wl_18 _ (List.mem_of_getElem? (i := 13) rfl)
theorem q_422 : Cond.fieldLink RX4 155 "MarketAwnings$Shower" "ranOff" "I" ∈ wsL_law := wl_18 _ (List.mem_of_getElem? (i := 14) rfl)
theorem q_423 : Cond.methodLink RX4 136 yX4_requireDrops ∈ wsL_law := wl_18 _ (List.mem_of_getElem? (i := 15) rfl)
theorem q_424 : Cond.static yX4_requireDrops ∈ wsL_law := wl_18 _ (List.mem_of_getElem? (i := 16) rfl)
theorem q_425 : Cond.code yX4_requireDrops cX4_requireDrops 1 none ∈ wsL_law := wl_18 _ (List.mem_of_getElem? (i := 17) rfl)
theorem q_426 : Cond.methodLink RX4 139 yX2_pour ∈ wsL_law := wl_18 _ (List.mem_of_getElem? (i := 18) rfl)
theorem q_427 : Cond.instanceMethod yX2_pour ∈ wsL_law := wl_18 _ (List.mem_of_getElem? (i := 19) rfl)
theorem q_428 : Cond.selects RX2 yX2_pour yX2_pour ∈ wsL_law := wl_18 _ (List.mem_of_getElem? (i := 20) rfl)
theorem q_429 : Cond.code yX2_pour cX2_pour 4 none ∈ wsL_law := wl_18 _ (List.mem_of_getElem? (i := 21) rfl)
theorem q_430 : Cond.methodLink RX2 29 yX2_dry ∈ wsL_law := wl_18 _ (List.mem_of_getElem? (i := 22) rfl)
theorem q_431 : Cond.instanceMethod yX2_dry ∈ wsL_law := wl_18 _ (List.mem_of_getElem? (i := 23) rfl)
theorem q_432 : Cond.selects RX2 yX2_dry yX2_dry ∈ wsL_law := wl_19 _ (List.mem_of_getElem? (i := 0) rfl)
theorem q_433 : Cond.code yX2_dry cX2_dry 1 none ∈ wsL_law := wl_19 _ (List.mem_of_getElem? (i := 1) rfl)
theorem q_434 : Cond.methodLink RX2 44 yJ7_fill_53178 ∈ wsL_law := wl_19 _ (List.mem_of_getElem? (i := 2) rfl)
theorem q_435 : Cond.methodLink RX2 32 yX2_land ∈ wsL_law := wl_19 _ (List.mem_of_getElem? (i := 3) rfl)
theorem q_436 : Cond.instanceMethod yX2_land ∈ wsL_law := wl_19 _ (List.mem_of_getElem? (i := 4) rfl)
theorem q_437 : Cond.selects RX2 yX2_land yX2_land ∈ wsL_law := wl_19 _ (List.mem_of_getElem? (i := 5) rfl)
theorem q_438 : Cond.code yX2_land cX2_land 6 none ∈ wsL_law := wl_19 _ (List.mem_of_getElem? (i := 6) rfl)
theorem q_439 : Cond.methodLink RX2 86 yX1_highestBelow ∈ wsL_law := wl_19 _ (List.mem_of_getElem? (i := 7) rfl)
theorem q_440 : Cond.instanceMethod yX1_highestBelow ∈ wsL_law := wl_19 _ (List.mem_of_getElem? (i := 8) rfl)
theorem q_441 : Cond.selects RX1 yX1_highestBelow yX1_highestBelow ∈ wsL_law := wl_19 _ (List.mem_of_getElem? (i := 9) rfl)
theorem q_442 : Cond.code yX1_highestBelow cX1_highestBelow 8 (some .int) ∈ wsL_law := wl_19 _ (List.mem_of_getElem? (i := 10) rfl)
theorem q_443 : Cond.fieldLink RX1 89 "MarketAwnings$Awning" "level" "I" ∈ wsL_law := wl_19 _ (List.mem_of_getElem? (i := 11) rfl)
theorem q_444 : Cond.methodLink RX1 92 yX0_covers ∈ wsL_law := wl_19 _ (List.mem_of_getElem? (i := 12) rfl)
theorem q_445 : Cond.instanceMethod yX0_covers ∈ wsL_law := wl_19 _ (List.mem_of_getElem? (i := 13) rfl)
theorem q_446 : Cond.selects RX0 yX0_covers yX0_covers ∈ wsL_law := wl_19 _ (List.mem_of_getElem? (i := 14) rfl)
theorem q_447 : Cond.code yX0_covers cX0_covers 3 (some .boolean) ∈ wsL_law := wl_19 _ (List.mem_of_getElem? (i := 15) rfl)
theorem q_448 : Cond.methodLink RX2 36 yX2_dripFromLevel ∈ wsL_law := wl_19 _ (List.mem_of_getElem? (i := 16) rfl)
theorem q_449 : Cond.instanceMethod yX2_dripFromLevel ∈ wsL_law := wl_19 _ (List.mem_of_getElem? (i := 17) rfl)
theorem q_450 : Cond.selects RX2 yX2_dripFromLevel yX2_dripFromLevel ∈ wsL_law := wl_19 _ (List.mem_of_getElem? (i := 18) rfl)
theorem q_451 : Cond.code yX2_dripFromLevel cX2_dripFromLevel 4 none ∈ wsL_law := wl_19 _ (List.mem_of_getElem? (i := 19) rfl)
theorem q_452 : Cond.fieldLink RX2 60 "MarketAwnings$Awning" "out" "Z" ∈ wsL_law := wl_19 _ (List.mem_of_getElem? (i := 20) rfl)
theorem q_453 : Cond.fieldLink RX2 66 "MarketAwnings$Awning" "level" "I" ∈ wsL_law := wl_19 _ (List.mem_of_getElem? (i := 21) rfl)
theorem q_454 : Cond.methodLink RX2 50 yX1_size ∈ wsL_law := wl_19 _ (List.mem_of_getElem? (i := 22) rfl)
theorem q_455 : Cond.methodLink RX2 56 yX1_numbered ∈ wsL_law := wl_19 _ (List.mem_of_getElem? (i := 23) rfl)
theorem q_456 : Cond.methodLink RX2 69 yX2_caughtBy ∈ wsL_law := wl_20 _ (List.mem_of_getElem? (i := 0) rfl)
theorem q_457 : Cond.instanceMethod yX2_caughtBy ∈ wsL_law := wl_20 _ (List.mem_of_getElem? (i := 1) rfl)
theorem q_458 : Cond.selects RX2 yX2_caughtBy yX2_caughtBy ∈ wsL_law := wl_20 _ (List.mem_of_getElem? (i := 2) rfl)
theorem q_459 : Cond.code yX2_caughtBy cX2_caughtBy 2 (some .int) ∈ wsL_law := wl_20 _ (List.mem_of_getElem? (i := 3) rfl)
theorem q_460 : Cond.methodLink RX2 73 yX2_drip ∈ wsL_law := wl_20 _ (List.mem_of_getElem? (i := 4) rfl)
theorem q_461 : Cond.instanceMethod yX2_drip ∈ wsL_law := wl_20 _ (List.mem_of_getElem? (i := 5) rfl)
theorem q_462 : Cond.selects RX2 yX2_drip yX2_drip ∈ wsL_law := wl_20 _ (List.mem_of_getElem? (i := 6) rfl)
theorem q_463 : Cond.code yX2_drip cX2_drip 8 none ∈ wsL_law := wl_20 _ (List.mem_of_getElem? (i := 7) rfl)
theorem q_464 : Cond.methodLink RX2 77 yX0_cellsBeyond ∈ wsL_law := wl_20 _ (List.mem_of_getElem? (i := 8) rfl)
theorem q_465 : Cond.instanceMethod yX0_cellsBeyond ∈ wsL_law := wl_20 _ (List.mem_of_getElem? (i := 9) rfl)
theorem q_466 : Cond.selects RX0 yX0_cellsBeyond yX0_cellsBeyond ∈ wsL_law := wl_20 _ (List.mem_of_getElem? (i := 10) rfl)
theorem q_467 : Cond.code yX0_cellsBeyond cX0_cellsBeyond 1 (some .int) ∈ wsL_law := wl_20 _ (List.mem_of_getElem? (i := 11) rfl)
theorem q_468 : Cond.methodLink RX0 37 yX0_dripsAlongRows ∈ wsL_law := wl_20 _ (List.mem_of_getElem? (i := 12) rfl)
theorem q_469 : Cond.instanceMethod yX0_dripsAlongRows ∈ wsL_law := wl_20 _ (List.mem_of_getElem? (i := 13) rfl)
theorem q_470 : Cond.selects RX0 yX0_dripsAlongRows yX0_dripsAlongRows ∈ wsL_law := wl_20 _ (List.mem_of_getElem? (i := 14) rfl)
theorem q_471 : Cond.code yX0_dripsAlongRows cX0_dripsAlongRows 1 (some .boolean) ∈ wsL_law := wl_20 _ (List.mem_of_getElem? (i := 15) rfl)
theorem q_472 : Cond.methodLink RX2 80 yX0_columnBeyond ∈ wsL_law := wl_20 _ (List.mem_of_getElem? (i := 16) rfl)
theorem q_473 : Cond.instanceMethod yX0_columnBeyond ∈ wsL_law := wl_20 _ (List.mem_of_getElem? (i := 17) rfl)
theorem q_474 : Cond.selects RX0 yX0_columnBeyond yX0_columnBeyond ∈ wsL_law := wl_20 _ (List.mem_of_getElem? (i := 18) rfl)
theorem q_475 : Cond.code yX0_columnBeyond cX0_columnBeyond 2 (some .int) ∈ wsL_law := wl_20 _ (List.mem_of_getElem? (i := 19) rfl)
theorem q_476 : Cond.methodLink RX2 83 yX0_rowBeyond ∈ wsL_law := wl_20 _ (List.mem_of_getElem? (i := 20) rfl)
theorem q_477 : Cond.instanceMethod yX0_rowBeyond ∈ wsL_law := wl_20 _ (List.mem_of_getElem? (i := 21) rfl)
theorem q_478 : Cond.selects RX0 yX0_rowBeyond yX0_rowBeyond ∈ wsL_law := wl_20 _ (List.mem_of_getElem? (i := 22) rfl)
theorem q_479 : Cond.code yX0_rowBeyond cX0_rowBeyond 2 (some .int) ∈ wsL_law := wl_20 _ (List.mem_of_getElem? (i := 23) rfl)
theorem q_480 : Cond.methodLink RX4 142 yX2_fallenAt ∈ wsL_law := wl_21 _ (List.mem_of_getElem? (i := 0) rfl)
theorem q_481 : Cond.instanceMethod yX2_fallenAt ∈ wsL_law := wl_21 _ (List.mem_of_getElem? (i := 1) rfl)
theorem q_482 : Cond.selects RX2 yX2_fallenAt yX2_fallenAt ∈ wsL_law := wl_21 _ (List.mem_of_getElem? (i := 2) rfl)
theorem q_483 : Cond.code yX2_fallenAt cX2_fallenAt 3 (some .int) ∈ wsL_law := wl_21 _ (List.mem_of_getElem? (i := 3) rfl)
theorem q_484 : Cond.methodLink RX4 148 yX2_caughtBy ∈ wsL_law := wl_21 _ (List.mem_of_getElem? (i := 4) rfl)
theorem q_485 : Cond.methodLink RL 93 yX5_rain ∈ wsL_law := wl_21 _ (List.mem_of_getElem? (i := 5) rfl)
theorem q_486 : Cond.instanceMethod yX5_rain ∈ wsL_law := wl_21 _ (List.mem_of_getElem? (i := 6) rfl)
theorem q_487 : Cond.selects RX5 yX5_rain yX5_rain ∈ wsL_law := wl_21 _ (List.mem_of_getElem? (i := 7) rfl)
theorem q_488 : Cond.code yX5_rain cX5_rain 4 (some .int) ∈ wsL_law := wl_21 _ (List.mem_of_getElem? (i := 8) rfl)
theorem q_489 : Cond.methodLink RX5 100 yX5_pour ∈ wsL_law := wl_21 _ (List.mem_of_getElem? (i := 9) rfl)
theorem q_490 : Cond.instanceMethod yX5_pour ∈ wsL_law := wl_21 _ (List.mem_of_getElem? (i := 10) rfl)
theorem q_491 : Cond.selects RX5 yX5_pour yX5_pour ∈ wsL_law := wl_21 _ (List.mem_of_getElem? (i := 11) rfl)
theorem q_492 : Cond.code yX5_pour cX5_pour 4 (some .int) ∈ wsL_law := wl_21 _ (List.mem_of_getElem? (i := 12) rfl)
theorem q_493 : Cond.methodLink RX5 71 yX5_fall ∈ wsL_law := wl_21 _ (List.mem_of_getElem? (i := 13) rfl)
theorem q_494 : Cond.instanceMethod yX5_fall ∈ wsL_law := wl_21 _ (List.mem_of_getElem? (i := 14) rfl)
theorem q_495 : Cond.selects RX5 yX5_fall yX5_fall ∈ wsL_law := wl_21 _ (List.mem_of_getElem? (i := 15) rfl)
theorem q_496 : Cond.code yX5_fall cX5_fall 6 none ∈ wsL_law := wl_21 _ (List.mem_of_getElem? (i := 16) rfl)
theorem q_497 : Cond.methodLink RX5 67 yX5_highest ∈ wsL_law := wl_21 _ (List.mem_of_getElem? (i := 17) rfl)
theorem q_498 : Cond.instanceMethod yX5_highest ∈ wsL_law := wl_21 _ (List.mem_of_getElem? (i := 18) rfl)
theorem q_499 : Cond.selects RX5 yX5_highest yX5_highest ∈ wsL_law := wl_21 _ (List.mem_of_getElem? (i := 19) rfl)
theorem q_500 : Cond.code yX5_highest cX5_highest 5 (some .int) ∈ wsL_law := wl_21 _ (List.mem_of_getElem? (i := 20) rfl)
theorem q_501 : Cond.methodLink RX5 63 yX5_below ∈ wsL_law := wl_21 _ (List.mem_of_getElem? (i := 21) rfl)
theorem q_502 : Cond.instanceMethod yX5_below ∈ wsL_law := wl_21 _ (List.mem_of_getElem? (i := 22) rfl)
theorem q_503 : Cond.selects RX5 yX5_below yX5_below ∈ wsL_law := wl_21 _ (List.mem_of_getElem? (i := 23) rfl)
theorem q_504 : Cond.code yX5_below cX5_below 4 (some .int) ∈ wsL_law := wl_22 _ (List.mem_of_getElem? (i := 0) rfl)
theorem q_505 : Cond.methodLink RX5 59 yX5_isHigher ∈ wsL_law := wl_22 _ (List.mem_of_getElem? (i := 1) rfl)
theorem q_506 : Cond.instanceMethod yX5_isHigher ∈ wsL_law := wl_22 _ (List.mem_of_getElem? (i := 2) rfl)
theorem q_507 : Cond.selects RX5 yX5_isHigher yX5_isHigher ∈ wsL_law := wl_22 _ (List.mem_of_getElem? (i := 3) rfl)
theorem q_508 : Cond.code yX5_isHigher cX5_isHigher 3 (some .boolean) ∈ wsL_law := wl_22 _ (List.mem_of_getElem? (i := 4) rfl)
theorem q_509 : Cond.methodLink RX5 75 yX5_drip ∈ wsL_law := wl_22 _ (List.mem_of_getElem? (i := 5) rfl)
theorem q_510 : Cond.instanceMethod yX5_drip ∈ wsL_law := wl_22 _ (List.mem_of_getElem? (i := 6) rfl)
theorem q_511 : Cond.selects RX5 yX5_drip yX5_drip ∈ wsL_law := wl_22 _ (List.mem_of_getElem? (i := 7) rfl)
theorem q_512 : Cond.code yX5_drip cX5_drip 8 (some .int) ∈ wsL_law := wl_22 _ (List.mem_of_getElem? (i := 8) rfl)
theorem q_513 : Cond.methodLink RL 94 yL_about ∈ wsL_law := wl_22 _ (List.mem_of_getElem? (i := 9) rfl)
theorem q_514 : Cond.static yL_about ∈ wsL_law := wl_22 _ (List.mem_of_getElem? (i := 10) rfl)
theorem q_515 : Cond.codeWith yL_about cL_about 5 (some .int) [(0, 10, 13, 15)] ∈ wsL_law := wl_22 _ (List.mem_of_getElem? (i := 11) rfl)
theorem q_516 : Cond.methodLink RL 38 yX4_about ∈ wsL_law := wl_22 _ (List.mem_of_getElem? (i := 12) rfl)
theorem q_517 : Cond.instanceMethod yX4_about ∈ wsL_law := wl_22 _ (List.mem_of_getElem? (i := 13) rfl)
theorem q_518 : Cond.selects RX4 yX4_about yX4_about ∈ wsL_law := wl_22 _ (List.mem_of_getElem? (i := 14) rfl)
theorem q_519 : Cond.code yX4_about cX4_about 4 (some .int) ∈ wsL_law := wl_22 _ (List.mem_of_getElem? (i := 15) rfl)
theorem q_520 : Cond.fieldLink RX4 161 "MarketAwnings$Awning" "level" "I" ∈ wsL_law := wl_22 _ (List.mem_of_getElem? (i := 16) rfl)
theorem q_521 : Cond.fieldLink RX4 164 "MarketAwnings$Awning" "side" "I" ∈ wsL_law := wl_22 _ (List.mem_of_getElem? (i := 17) rfl)
theorem q_522 : Cond.methodLink RX4 158 yX4_requireWhat ∈ wsL_law := wl_22 _ (List.mem_of_getElem? (i := 18) rfl)
theorem q_523 : Cond.static yX4_requireWhat ∈ wsL_law := wl_22 _ (List.mem_of_getElem? (i := 19) rfl)
theorem q_524 : Cond.code yX4_requireWhat cX4_requireWhat 2 none ∈ wsL_law := wl_22 _ (List.mem_of_getElem? (i := 20) rfl)
theorem q_525 : Cond.methodLink RX4 167 yX1_coveredOnlyBy ∈ wsL_law := wl_22 _ (List.mem_of_getElem? (i := 21) rfl)
theorem q_526 : Cond.instanceMethod yX1_coveredOnlyBy ∈ wsL_law := wl_22 _ (List.mem_of_getElem? (i := 22) rfl)
theorem q_527 : Cond.selects RX1 yX1_coveredOnlyBy yX1_coveredOnlyBy ∈ wsL_law := wl_22 _ (List.mem_of_getElem? (i := 23) rfl)
theorem q_528 : Cond.code yX1_coveredOnlyBy cX1_coveredOnlyBy 5 (some .int) ∈ wsL_law := wl_23 _ (List.mem_of_getElem? (i := 0) rfl)
theorem q_529 : Cond.methodLink RX1 99 yX1_layersAt ∈ wsL_law := wl_23 _ (List.mem_of_getElem? (i := 1) rfl)
theorem q_530 : Cond.instanceMethod yX1_layersAt ∈ wsL_law := wl_23 _ (List.mem_of_getElem? (i := 2) rfl)
theorem q_531 : Cond.selects RX1 yX1_layersAt yX1_layersAt ∈ wsL_law := wl_23 _ (List.mem_of_getElem? (i := 3) rfl)
theorem q_532 : Cond.code yX1_layersAt cX1_layersAt 3 (some .int) ∈ wsL_law := wl_23 _ (List.mem_of_getElem? (i := 4) rfl)
theorem q_533 : Cond.methodLink RL 96 yX5_about ∈ wsL_law := wl_23 _ (List.mem_of_getElem? (i := 5) rfl)
theorem q_534 : Cond.instanceMethod yX5_about ∈ wsL_law := wl_23 _ (List.mem_of_getElem? (i := 6) rfl)
theorem q_535 : Cond.selects RX5 yX5_about yX5_about ∈ wsL_law := wl_23 _ (List.mem_of_getElem? (i := 7) rfl)
theorem q_536 : Cond.code yX5_about cX5_about 3 (some .int) ∈ wsL_law := wl_23 _ (List.mem_of_getElem? (i := 8) rfl)
theorem q_537 : Cond.methodLink RX5 115 yX5_awningTold ∈ wsL_law := wl_23 _ (List.mem_of_getElem? (i := 9) rfl)
theorem q_538 : Cond.instanceMethod yX5_awningTold ∈ wsL_law := wl_23 _ (List.mem_of_getElem? (i := 10) rfl)
theorem q_539 : Cond.selects RX5 yX5_awningTold yX5_awningTold ∈ wsL_law := wl_23 _ (List.mem_of_getElem? (i := 11) rfl)
theorem q_540 : Cond.code yX5_awningTold cX5_awningTold 3 (some .int) ∈ wsL_law := wl_23 _ (List.mem_of_getElem? (i := 12) rfl)
theorem q_541 : Cond.methodLink RX5 112 yX5_own ∈ wsL_law := wl_23 _ (List.mem_of_getElem? (i := 13) rfl)
theorem q_542 : Cond.instanceMethod yX5_own ∈ wsL_law := wl_23 _ (List.mem_of_getElem? (i := 14) rfl)
theorem q_543 : Cond.selects RX5 yX5_own yX5_own ∈ wsL_law := wl_23 _ (List.mem_of_getElem? (i := 15) rfl)
theorem q_544 : Cond.code yX5_own cX5_own 4 (some .int) ∈ wsL_law := wl_23 _ (List.mem_of_getElem? (i := 16) rfl)
theorem q_545 : Cond.methodLink RL 97 yL_cell ∈ wsL_law := wl_23 _ (List.mem_of_getElem? (i := 17) rfl)
theorem q_546 : Cond.static yL_cell ∈ wsL_law := wl_23 _ (List.mem_of_getElem? (i := 18) rfl)
theorem q_547 : Cond.codeWith yL_cell cL_cell 6 (some .int) [(0, 12, 15, 15)] ∈ wsL_law := wl_23 _ (List.mem_of_getElem? (i := 19) rfl)
theorem q_548 : Cond.methodLink RL 41 yX4_cell ∈ wsL_law := wl_23 _ (List.mem_of_getElem? (i := 20) rfl)
theorem q_549 : Cond.instanceMethod yX4_cell ∈ wsL_law := wl_23 _ (List.mem_of_getElem? (i := 21) rfl)
theorem q_550 : Cond.selects RX4 yX4_cell yX4_cell ∈ wsL_law := wl_23 _ (List.mem_of_getElem? (i := 22) rfl)
theorem q_551 : Cond.code yX4_cell cX4_cell 4 (some .int) ∈ wsL_law := wl_23 _ (List.mem_of_getElem? (i := 23) rfl)
theorem q_552 : Cond.methodLink RX4 171 yX1_layersAt ∈ wsL_law := wl_24 _ (List.mem_of_getElem? (i := 0) rfl)
theorem q_553 : Cond.methodLink RX4 174 yX1_highestBelow ∈ wsL_law := wl_24 _ (List.mem_of_getElem? (i := 1) rfl)
theorem q_554 : Cond.methodLink RL 99 yX5_cell ∈ wsL_law := wl_24 _ (List.mem_of_getElem? (i := 2) rfl)
theorem q_555 : Cond.instanceMethod yX5_cell ∈ wsL_law := wl_24 _ (List.mem_of_getElem? (i := 3) rfl)
theorem q_556 : Cond.selects RX5 yX5_cell yX5_cell ∈ wsL_law := wl_24 _ (List.mem_of_getElem? (i := 4) rfl)
theorem q_557 : Cond.code yX5_cell cX5_cell 4 (some .int) ∈ wsL_law := wl_24 _ (List.mem_of_getElem? (i := 5) rfl)
theorem q_558 : Cond.methodLink RX5 121 yX5_cellTold ∈ wsL_law := wl_24 _ (List.mem_of_getElem? (i := 6) rfl)
theorem q_559 : Cond.instanceMethod yX5_cellTold ∈ wsL_law := wl_24 _ (List.mem_of_getElem? (i := 7) rfl)
theorem q_560 : Cond.selects RX5 yX5_cellTold yX5_cellTold ∈ wsL_law := wl_24 _ (List.mem_of_getElem? (i := 8) rfl)
theorem q_561 : Cond.code yX5_cellTold cX5_cellTold 4 (some .int) ∈ wsL_law := wl_24 _ (List.mem_of_getElem? (i := 9) rfl)
theorem q_562 : Cond.methodLink RL 100 yL_cord ∈ wsL_law := wl_24 _ (List.mem_of_getElem? (i := 10) rfl)
theorem q_563 : Cond.static yL_cord ∈ wsL_law := wl_24 _ (List.mem_of_getElem? (i := 11) rfl)
theorem q_564 : Cond.codeWith yL_cord cL_cord 5 (some .int) [(0, 10, 13, 15)] ∈ wsL_law := wl_24 _ (List.mem_of_getElem? (i := 12) rfl)
theorem q_565 : Cond.methodLink RL 44 yX4_cord ∈ wsL_law := wl_24 _ (List.mem_of_getElem? (i := 13) rfl)
theorem q_566 : Cond.instanceMethod yX4_cord ∈ wsL_law := wl_24 _ (List.mem_of_getElem? (i := 14) rfl)
theorem q_567 : Cond.selects RX4 yX4_cord yX4_cord ∈ wsL_law := wl_24 _ (List.mem_of_getElem? (i := 15) rfl)
theorem q_568 : Cond.code yX4_cord cX4_cord 3 (some .int) ∈ wsL_law := wl_24 _ (List.mem_of_getElem? (i := 16) rfl)
theorem q_569 : Cond.methodLink RX4 183 yX1_coveredInColumn ∈ wsL_law := wl_24 _ (List.mem_of_getElem? (i := 17) rfl)
theorem q_570 : Cond.instanceMethod yX1_coveredInColumn ∈ wsL_law := wl_24 _ (List.mem_of_getElem? (i := 18) rfl)
theorem q_571 : Cond.selects RX1 yX1_coveredInColumn yX1_coveredInColumn ∈ wsL_law := wl_24 _ (List.mem_of_getElem? (i := 19) rfl)
theorem q_572 : Cond.code yX1_coveredInColumn cX1_coveredInColumn 4 (some .int) ∈ wsL_law := wl_24 _ (List.mem_of_getElem? (i := 20) rfl)
theorem q_573 : Cond.methodLink RX4 186 yX1_runsInColumn ∈ wsL_law := wl_24 _ (List.mem_of_getElem? (i := 21) rfl)
theorem q_574 : Cond.instanceMethod yX1_runsInColumn ∈ wsL_law := wl_24 _ (List.mem_of_getElem? (i := 22) rfl)
theorem q_575 : Cond.selects RX1 yX1_runsInColumn yX1_runsInColumn ∈ wsL_law := wl_24 _ (List.mem_of_getElem? (i := 23) rfl)
theorem q_576 : Cond.code yX1_runsInColumn cX1_runsInColumn 4 (some .int) ∈ wsL_law := wl_25 _ (List.mem_of_getElem? (i := 0) rfl)
theorem q_577 : Cond.methodLink RX4 189 yX1_longestRunInColumn ∈ wsL_law := wl_25 _ (List.mem_of_getElem? (i := 1) rfl)
theorem q_578 : Cond.instanceMethod yX1_longestRunInColumn ∈ wsL_law := wl_25 _ (List.mem_of_getElem? (i := 2) rfl)
theorem q_579 : Cond.selects RX1 yX1_longestRunInColumn yX1_longestRunInColumn ∈ wsL_law := wl_25 _ (List.mem_of_getElem? (i := 3) rfl)
theorem q_580 : Cond.code yX1_longestRunInColumn cX1_longestRunInColumn 5 (some .int) ∈ wsL_law := wl_25 _ (List.mem_of_getElem? (i := 4) rfl)
theorem q_581 : Cond.methodLink RX1 116 Lib.Math.max.name ∈ wsL_law := wl_25 _ (List.mem_of_getElem? (i := 5) rfl)
theorem q_582 : Cond.methodLink RX4 192 yX1_mostLayersInColumn ∈ wsL_law := wl_25 _ (List.mem_of_getElem? (i := 6) rfl)
theorem q_583 : Cond.instanceMethod yX1_mostLayersInColumn ∈ wsL_law := wl_25 _ (List.mem_of_getElem? (i := 7) rfl)
theorem q_584 : Cond.selects RX1 yX1_mostLayersInColumn yX1_mostLayersInColumn ∈ wsL_law := wl_25 _ (List.mem_of_getElem? (i := 8) rfl)
theorem q_585 : Cond.code yX1_mostLayersInColumn cX1_mostLayersInColumn 4 (some .int) ∈ wsL_law := wl_25 _ (List.mem_of_getElem? (i := 9) rfl)
theorem q_586 : Cond.methodLink RL 102 yX5_cord ∈ wsL_law := wl_25 _ (List.mem_of_getElem? (i := 10) rfl)
theorem q_587 : Cond.instanceMethod yX5_cord ∈ wsL_law := wl_25 _ (List.mem_of_getElem? (i := 11) rfl)
theorem q_588 : Cond.selects RX5 yX5_cord yX5_cord ∈ wsL_law := wl_25 _ (List.mem_of_getElem? (i := 12) rfl)
theorem q_589 : Cond.code yX5_cord cX5_cord 3 (some .int) ∈ wsL_law := wl_25 _ (List.mem_of_getElem? (i := 13) rfl)
theorem q_590 : Cond.methodLink RX5 137 yX5_cordTold ∈ wsL_law := wl_25 _ (List.mem_of_getElem? (i := 14) rfl)
theorem q_591 : Cond.instanceMethod yX5_cordTold ∈ wsL_law := wl_25 _ (List.mem_of_getElem? (i := 15) rfl)
theorem q_592 : Cond.selects RX5 yX5_cordTold yX5_cordTold ∈ wsL_law := wl_25 _ (List.mem_of_getElem? (i := 16) rfl)
theorem q_593 : Cond.code yX5_cordTold cX5_cordTold 4 (some .int) ∈ wsL_law := wl_25 _ (List.mem_of_getElem? (i := 17) rfl)
theorem q_594 : Cond.methodLink RX5 131 yX5_longest ∈ wsL_law := wl_25 _ (List.mem_of_getElem? (i := 18) rfl)
theorem q_595 : Cond.static yX5_longest ∈ wsL_law := wl_25 _ (List.mem_of_getElem? (i := 19) rfl)
theorem q_596 : Cond.code yX5_longest cX5_longest 3 (some .int) ∈ wsL_law := wl_25 _ (List.mem_of_getElem? (i := 20) rfl)
theorem q_597 : Cond.methodLink RX5 134 yX5_deepest ∈ wsL_law := wl_25 _ (List.mem_of_getElem? (i := 21) rfl)
theorem q_598 : Cond.instanceMethod yX5_deepest ∈ wsL_law := wl_25 _ (List.mem_of_getElem? (i := 22) rfl)
theorem q_599 : Cond.selects RX5 yX5_deepest yX5_deepest ∈ wsL_law := wl_25 _ (List.mem_of_getElem? (i := 23) rfl)
theorem q_600 : Cond.code yX5_deepest cX5_deepest 4 (some .int) ∈ wsL_law := wl_26 _ (List.mem_of_getElem? (i := 0) rfl)
theorem q_601 : Cond.methodLink RX5 124 Lib.Math.max.name ∈ wsL_law := wl_26 _ (List.mem_of_getElem? (i := 1) rfl)
theorem q_602 : Cond.methodLink RL 103 yL_told ∈ wsL_law := wl_26 _ (List.mem_of_getElem? (i := 2) rfl)
theorem q_603 : Cond.static yL_told ∈ wsL_law := wl_26 _ (List.mem_of_getElem? (i := 3) rfl)
theorem q_604 : Cond.codeWith yL_told cL_told 5 (some .int) [(0, 10, 13, 15)] ∈ wsL_law := wl_26 _ (List.mem_of_getElem? (i := 4) rfl)
theorem q_605 : Cond.methodLink RL 47 yX4_told ∈ wsL_law := wl_26 _ (List.mem_of_getElem? (i := 5) rfl)
theorem q_606 : Cond.instanceMethod yX4_told ∈ wsL_law := wl_26 _ (List.mem_of_getElem? (i := 6) rfl)
theorem q_607 : Cond.selects RX4 yX4_told yX4_told ∈ wsL_law := wl_26 _ (List.mem_of_getElem? (i := 7) rfl)
theorem q_608 : Cond.code yX4_told cX4_told 4 (some .int) ∈ wsL_law := wl_26 _ (List.mem_of_getElem? (i := 8) rfl)
theorem q_609 : Cond.methodLink RX4 195 yX4_numberedStall ∈ wsL_law := wl_26 _ (List.mem_of_getElem? (i := 9) rfl)
theorem q_610 : Cond.instanceMethod yX4_numberedStall ∈ wsL_law := wl_26 _ (List.mem_of_getElem? (i := 10) rfl)
theorem q_611 : Cond.selects RX4 yX4_numberedStall yX4_numberedStall ∈ wsL_law := wl_26 _ (List.mem_of_getElem? (i := 11) rfl)
theorem q_612 : Cond.code yX4_numberedStall cX4_numberedStall 2 (some (.object "MarketAwnings$Stall")) ∈ wsL_law := wl_26 _ (List.mem_of_getElem? (i := 12) rfl)
theorem q_613 : Cond.methodLink RX4 201 yX4_gotBy ∈ wsL_law := wl_26 _ (List.mem_of_getElem? (i := 13) rfl)
theorem q_614 : Cond.instanceMethod yX4_gotBy ∈ wsL_law := wl_26 _ (List.mem_of_getElem? (i := 14) rfl)
theorem q_615 : Cond.selects RX4 yX4_gotBy yX4_gotBy ∈ wsL_law := wl_26 _ (List.mem_of_getElem? (i := 15) rfl)
theorem q_616 : Cond.code yX4_gotBy cX4_gotBy 2 (some .int) ∈ wsL_law := wl_26 _ (List.mem_of_getElem? (i := 16) rfl)
theorem q_617 : Cond.fieldLink RX4 261 "MarketAwnings$Stall" "groundBefore" "I" ∈ wsL_law := wl_26 _ (List.mem_of_getElem? (i := 17) rfl)
theorem q_618 : Cond.methodLink RL 105 yX5_told ∈ wsL_law := wl_26 _ (List.mem_of_getElem? (i := 18) rfl)
theorem q_619 : Cond.instanceMethod yX5_told ∈ wsL_law := wl_26 _ (List.mem_of_getElem? (i := 19) rfl)
theorem q_620 : Cond.selects RX5 yX5_told yX5_told ∈ wsL_law := wl_26 _ (List.mem_of_getElem? (i := 20) rfl)
theorem q_621 : Cond.code yX5_told cX5_told 3 (some .int) ∈ wsL_law := wl_26 _ (List.mem_of_getElem? (i := 21) rfl)
theorem q_622 : Cond.methodLink RX5 143 yX5_isStall ∈ wsL_law := wl_26 _ (List.mem_of_getElem? (i := 22) rfl)
theorem q_623 : Cond.instanceMethod yX5_isStall ∈ wsL_law := wl_26 _ (List.mem_of_getElem? (i := 23) rfl)
theorem q_624 : Cond.selects RX5 yX5_isStall yX5_isStall ∈ wsL_law := wl_27 _ (List.mem_of_getElem? (i := 0) rfl)
theorem q_625 : Cond.code yX5_isStall cX5_isStall 2 (some .boolean) ∈ wsL_law := wl_27 _ (List.mem_of_getElem? (i := 1) rfl)
theorem q_626 : Cond.methodLink RL 106 yL_share ∈ wsL_law := wl_27 _ (List.mem_of_getElem? (i := 2) rfl)
theorem q_627 : Cond.static yL_share ∈ wsL_law := wl_27 _ (List.mem_of_getElem? (i := 3) rfl)
theorem q_628 : Cond.codeWith yL_share cL_share 5 (some .int) [(0, 10, 13, 15)] ∈ wsL_law := wl_27 _ (List.mem_of_getElem? (i := 4) rfl)
theorem q_629 : Cond.methodLink RL 50 yX4_share ∈ wsL_law := wl_27 _ (List.mem_of_getElem? (i := 5) rfl)
theorem q_630 : Cond.instanceMethod yX4_share ∈ wsL_law := wl_27 _ (List.mem_of_getElem? (i := 6) rfl)
theorem q_631 : Cond.selects RX4 yX4_share yX4_share ∈ wsL_law := wl_27 _ (List.mem_of_getElem? (i := 7) rfl)
theorem q_632 : Cond.code yX4_share cX4_share 7 (some .int) ∈ wsL_law := wl_27 _ (List.mem_of_getElem? (i := 8) rfl)
theorem q_633 : Cond.methodLink RX4 205 Lib.Math.min.name ∈ wsL_law := wl_27 _ (List.mem_of_getElem? (i := 9) rfl)
theorem q_634 : Cond.methodLink RX4 210 Lib.Math.max.name ∈ wsL_law := wl_27 _ (List.mem_of_getElem? (i := 10) rfl)
theorem q_635 : Cond.methodLink RL 108 yX5_share ∈ wsL_law := wl_27 _ (List.mem_of_getElem? (i := 11) rfl)
theorem q_636 : Cond.instanceMethod yX5_share ∈ wsL_law := wl_27 _ (List.mem_of_getElem? (i := 12) rfl)
theorem q_637 : Cond.selects RX5 yX5_share yX5_share ∈ wsL_law := wl_27 _ (List.mem_of_getElem? (i := 13) rfl)
theorem q_638 : Cond.code yX5_share cX5_share 5 (some .int) ∈ wsL_law := wl_27 _ (List.mem_of_getElem? (i := 14) rfl)
theorem q_639 : Cond.methodLink RL 109 yL_count ∈ wsL_law := wl_27 _ (List.mem_of_getElem? (i := 15) rfl)
theorem q_640 : Cond.static yL_count ∈ wsL_law := wl_27 _ (List.mem_of_getElem? (i := 16) rfl)
theorem q_641 : Cond.codeWith yL_count cL_count 4 (some .int) [(0, 9, 12, 15)] ∈ wsL_law := wl_27 _ (List.mem_of_getElem? (i := 17) rfl)
theorem q_642 : Cond.methodLink RL 53 yX4_count ∈ wsL_law := wl_27 _ (List.mem_of_getElem? (i := 18) rfl)
theorem q_643 : Cond.instanceMethod yX4_count ∈ wsL_law := wl_27 _ (List.mem_of_getElem? (i := 19) rfl)
theorem q_644 : Cond.selects RX4 yX4_count yX4_count ∈ wsL_law := wl_27 _ (List.mem_of_getElem? (i := 20) rfl)
theorem q_645 : Cond.code yX4_count cX4_count 2 (some .int) ∈ wsL_law := wl_27 _ (List.mem_of_getElem? (i := 21) rfl)
theorem q_646 : Cond.methodLink RX4 213 yX1_sizeOut ∈ wsL_law := wl_27 _ (List.mem_of_getElem? (i := 22) rfl)
theorem q_647 : Cond.instanceMethod yX1_sizeOut ∈ wsL_law := wl_27 _ (List.mem_of_getElem? (i := 23) rfl)
theorem q_648 : Cond.selects RX1 yX1_sizeOut yX1_sizeOut ∈ wsL_law := wl_28 _ (List.mem_of_getElem? (i := 0) rfl)
theorem q_649 : Cond.code yX1_sizeOut cX1_sizeOut 3 (some .int) ∈ wsL_law := wl_28 _ (List.mem_of_getElem? (i := 1) rfl)
theorem q_650 : Cond.methodLink RX4 216 yX1_outline ∈ wsL_law := wl_28 _ (List.mem_of_getElem? (i := 2) rfl)
theorem q_651 : Cond.instanceMethod yX1_outline ∈ wsL_law := wl_28 _ (List.mem_of_getElem? (i := 3) rfl)
theorem q_652 : Cond.selects RX1 yX1_outline yX1_outline ∈ wsL_law := wl_28 _ (List.mem_of_getElem? (i := 4) rfl)
theorem q_653 : Cond.code yX1_outline cX1_outline 4 (some .int) ∈ wsL_law := wl_28 _ (List.mem_of_getElem? (i := 5) rfl)
theorem q_654 : Cond.methodLink RX1 103 yX1_openSides ∈ wsL_law := wl_28 _ (List.mem_of_getElem? (i := 6) rfl)
theorem q_655 : Cond.instanceMethod yX1_openSides ∈ wsL_law := wl_28 _ (List.mem_of_getElem? (i := 7) rfl)
theorem q_656 : Cond.selects RX1 yX1_openSides yX1_openSides ∈ wsL_law := wl_28 _ (List.mem_of_getElem? (i := 8) rfl)
theorem q_657 : Cond.code yX1_openSides cX1_openSides 3 (some .int) ∈ wsL_law := wl_28 _ (List.mem_of_getElem? (i := 9) rfl)
theorem q_658 : Cond.methodLink RX1 106 yX1_openAt ∈ wsL_law := wl_28 _ (List.mem_of_getElem? (i := 10) rfl)
theorem q_659 : Cond.instanceMethod yX1_openAt ∈ wsL_law := wl_28 _ (List.mem_of_getElem? (i := 11) rfl)
theorem q_660 : Cond.selects RX1 yX1_openAt yX1_openAt ∈ wsL_law := wl_28 _ (List.mem_of_getElem? (i := 12) rfl)
theorem q_661 : Cond.code yX1_openAt cX1_openAt 3 (some .int) ∈ wsL_law := wl_28 _ (List.mem_of_getElem? (i := 13) rfl)
theorem q_662 : Cond.methodLink RX4 219 yX1_parts ∈ wsL_law := wl_28 _ (List.mem_of_getElem? (i := 14) rfl)
theorem q_663 : Cond.instanceMethod yX1_parts ∈ wsL_law := wl_28 _ (List.mem_of_getElem? (i := 15) rfl)
theorem q_664 : Cond.selects RX1 yX1_parts yX1_parts ∈ wsL_law := wl_28 _ (List.mem_of_getElem? (i := 16) rfl)
theorem q_665 : Cond.code yX1_parts cX1_parts 4 (some .int) ∈ wsL_law := wl_28 _ (List.mem_of_getElem? (i := 17) rfl)
theorem q_666 : Cond.methodLink RX1 109 yX1_reach ∈ wsL_law := wl_28 _ (List.mem_of_getElem? (i := 18) rfl)
theorem q_667 : Cond.instanceMethod yX1_reach ∈ wsL_law := wl_28 _ (List.mem_of_getElem? (i := 19) rfl)
theorem q_668 : Cond.selects RX1 yX1_reach yX1_reach ∈ wsL_law := wl_28 _ (List.mem_of_getElem? (i := 20) rfl)
theorem q_669 : Cond.code yX1_reach cX1_reach 4 none ∈ wsL_law := wl_28 _ (List.mem_of_getElem? (i := 21) rfl)
theorem q_670 : Cond.methodLink RX1 113 yX1_reachAllFromQueue ∈ wsL_law := wl_28 _ (List.mem_of_getElem? (i := 22) rfl)
theorem q_671 : Cond.instanceMethod yX1_reachAllFromQueue ∈ wsL_law := wl_28 _ (List.mem_of_getElem? (i := 23) rfl)
theorem q_672 : Cond.selects RX1 yX1_reachAllFromQueue yX1_reachAllFromQueue ∈ wsL_law := wl_29 _ (List.mem_of_getElem? (i := 0) rfl)
theorem q_673 : Cond.code yX1_reachAllFromQueue cX1_reachAllFromQueue 4 none ∈ wsL_law := wl_29 _ (List.mem_of_getElem? (i := 1) rfl)
theorem q_674 : Cond.methodLink RX4 222 yX1_cellsWithLayers ∈ wsL_law := wl_29 _ (List.mem_of_getElem? (i := 2) rfl)
theorem q_675 : Cond.methodLink RX4 225 yX4_stallsNotCovered ∈ wsL_law := wl_29 _ (List.mem_of_getElem? (i := 3) rfl)
theorem q_676 : Cond.instanceMethod yX4_stallsNotCovered ∈ wsL_law := wl_29 _ (List.mem_of_getElem? (i := 4) rfl)
theorem q_677 : Cond.selects RX4 yX4_stallsNotCovered yX4_stallsNotCovered ∈ wsL_law := wl_29 _ (List.mem_of_getElem? (i := 5) rfl)
theorem q_678 : Cond.code yX4_stallsNotCovered cX4_stallsNotCovered 4 (some .int) ∈ wsL_law := wl_29 _ (List.mem_of_getElem? (i := 6) rfl)
theorem q_679 : Cond.methodLink RL 111 yX5_count ∈ wsL_law := wl_29 _ (List.mem_of_getElem? (i := 7) rfl)
theorem q_680 : Cond.instanceMethod yX5_count ∈ wsL_law := wl_29 _ (List.mem_of_getElem? (i := 8) rfl)
theorem q_681 : Cond.selects RX5 yX5_count yX5_count ∈ wsL_law := wl_29 _ (List.mem_of_getElem? (i := 9) rfl)
theorem q_682 : Cond.code yX5_count cX5_count 2 (some .int) ∈ wsL_law := wl_29 _ (List.mem_of_getElem? (i := 10) rfl)
theorem q_683 : Cond.methodLink RL 112 yL_would ∈ wsL_law := wl_29 _ (List.mem_of_getElem? (i := 11) rfl)
theorem q_684 : Cond.static yL_would ∈ wsL_law := wl_29 _ (List.mem_of_getElem? (i := 12) rfl)
theorem q_685 : Cond.codeWith yL_would cL_would 5 (some .int) [(0, 10, 13, 15), (0, 10, 17, 13)] ∈ wsL_law := wl_29 _ (List.mem_of_getElem? (i := 13) rfl)
theorem q_686 : Cond.methodLink RL 56 yX4_would ∈ wsL_law := wl_29 _ (List.mem_of_getElem? (i := 14) rfl)
theorem q_687 : Cond.instanceMethod yX4_would ∈ wsL_law := wl_29 _ (List.mem_of_getElem? (i := 15) rfl)
theorem q_688 : Cond.selects RX4 yX4_would yX4_would ∈ wsL_law := wl_29 _ (List.mem_of_getElem? (i := 16) rfl)
theorem q_689 : Cond.code yX4_would cX4_would 4 (some .int) ∈ wsL_law := wl_29 _ (List.mem_of_getElem? (i := 17) rfl)
theorem q_690 : Cond.methodLink RL 114 yX5_would ∈ wsL_law := wl_29 _ (List.mem_of_getElem? (i := 18) rfl)
theorem q_691 : Cond.instanceMethod yX5_would ∈ wsL_law := wl_29 _ (List.mem_of_getElem? (i := 19) rfl)
theorem q_692 : Cond.selects RX5 yX5_would yX5_would ∈ wsL_law := wl_29 _ (List.mem_of_getElem? (i := 20) rfl)
theorem q_693 : Cond.code yX5_would cX5_would 3 (some .int) ∈ wsL_law := wl_29 _ (List.mem_of_getElem? (i := 21) rfl)
theorem q_694 : Cond.methodLink RL 115 yL_best ∈ wsL_law := wl_29 _ (List.mem_of_getElem? (i := 22) rfl)
theorem q_695 : Cond.static yL_best ∈ wsL_law := wl_29 _ (List.mem_of_getElem? (i := 23) rfl)
theorem q_696 : Cond.codeWith yL_best cL_best 6 (some .int) [(0, 12, 15, 13), (0, 12, 19, 15)] ∈ wsL_law := wl_30 _ (List.mem_of_getElem? (i := 0) rfl)
theorem q_697 : Cond.methodLink RL 59 yX4_best ∈ wsL_law := wl_30 _ (List.mem_of_getElem? (i := 1) rfl)
theorem q_698 : Cond.instanceMethod yX4_best ∈ wsL_law := wl_30 _ (List.mem_of_getElem? (i := 2) rfl)
theorem q_699 : Cond.selects RX4 yX4_best yX4_best ∈ wsL_law := wl_30 _ (List.mem_of_getElem? (i := 3) rfl)
theorem q_700 : Cond.code yX4_best cX4_best 10 (some .int) ∈ wsL_law := wl_30 _ (List.mem_of_getElem? (i := 4) rfl)
theorem q_701 : Cond.methodLink RX4 228 yX1_notCoveredIn ∈ wsL_law := wl_30 _ (List.mem_of_getElem? (i := 5) rfl)
theorem q_702 : Cond.instanceMethod yX1_notCoveredIn ∈ wsL_law := wl_30 _ (List.mem_of_getElem? (i := 6) rfl)
theorem q_703 : Cond.selects RX1 yX1_notCoveredIn yX1_notCoveredIn ∈ wsL_law := wl_30 _ (List.mem_of_getElem? (i := 7) rfl)
theorem q_704 : Cond.code yX1_notCoveredIn cX1_notCoveredIn 8 (some .int) ∈ wsL_law := wl_30 _ (List.mem_of_getElem? (i := 8) rfl)
theorem q_705 : Cond.methodLink RL 117 yX5_best ∈ wsL_law := wl_30 _ (List.mem_of_getElem? (i := 9) rfl)
theorem q_706 : Cond.instanceMethod yX5_best ∈ wsL_law := wl_30 _ (List.mem_of_getElem? (i := 10) rfl)
theorem q_707 : Cond.selects RX5 yX5_best yX5_best ∈ wsL_law := wl_30 _ (List.mem_of_getElem? (i := 11) rfl)
theorem q_708 : Cond.code yX5_best cX5_best 10 (some .int) ∈ wsL_law := wl_30 _ (List.mem_of_getElem? (i := 12) rfl)
theorem q_709 : Cond.methodLink RL 118 yX4_advise ∈ wsL_law := wl_30 _ (List.mem_of_getElem? (i := 13) rfl)
theorem q_710 : Cond.instanceMethod yX4_advise ∈ wsL_law := wl_30 _ (List.mem_of_getElem? (i := 14) rfl)
theorem q_711 : Cond.selects RX4 yX4_advise yX4_advise ∈ wsL_law := wl_30 _ (List.mem_of_getElem? (i := 15) rfl)
theorem q_712 : Cond.code yX4_advise cX4_advise 6 (some .int) ∈ wsL_law := wl_30 _ (List.mem_of_getElem? (i := 16) rfl)
theorem q_713 : Cond.methodLink RL 121 yX5_advise ∈ wsL_law := wl_30 _ (List.mem_of_getElem? (i := 17) rfl)
theorem q_714 : Cond.instanceMethod yX5_advise ∈ wsL_law := wl_30 _ (List.mem_of_getElem? (i := 18) rfl)
theorem q_715 : Cond.selects RX5 yX5_advise yX5_advise ∈ wsL_law := wl_30 _ (List.mem_of_getElem? (i := 19) rfl)
theorem q_716 : Cond.code yX5_advise cX5_advise 3 (some .int) ∈ wsL_law := wl_30 _ (List.mem_of_getElem? (i := 20) rfl)
theorem q_717 : Cond.methodLink RL 122 yX4_mean ∈ wsL_law := wl_30 _ (List.mem_of_getElem? (i := 21) rfl)
theorem q_718 : Cond.instanceMethod yX4_mean ∈ wsL_law := wl_30 _ (List.mem_of_getElem? (i := 22) rfl)
theorem q_719 : Cond.selects RX4 yX4_mean yX4_mean ∈ wsL_law := wl_30 _ (List.mem_of_getElem? (i := 23) rfl)
theorem q_720 : Cond.code yX4_mean cX4_mean 4 (some .double) ∈ wsL_law := wl_31 _ (List.mem_of_getElem? (i := 0) rfl)
theorem q_721 : Cond.methodLink RL 126 yX5_mean ∈ wsL_law := wl_31 _ (List.mem_of_getElem? (i := 1) rfl)
theorem q_722 : Cond.instanceMethod yX5_mean ∈ wsL_law := wl_31 _ (List.mem_of_getElem? (i := 2) rfl)
theorem q_723 : Cond.selects RX5 yX5_mean yX5_mean ∈ wsL_law := wl_31 _ (List.mem_of_getElem? (i := 3) rfl)
theorem q_724 : Cond.code yX5_mean cX5_mean 3 (some .double) ∈ wsL_law := wl_31 _ (List.mem_of_getElem? (i := 4) rfl)
theorem q_725 : Cond.methodLink RL 127 yX4_digest ∈ wsL_law := wl_31 _ (List.mem_of_getElem? (i := 5) rfl)
theorem q_726 : Cond.instanceMethod yX4_digest ∈ wsL_law := wl_31 _ (List.mem_of_getElem? (i := 6) rfl)
theorem q_727 : Cond.selects RX4 yX4_digest yX4_digest ∈ wsL_law := wl_31 _ (List.mem_of_getElem? (i := 7) rfl)
theorem q_728 : Cond.code yX4_digest cX4_digest 5 (some .long) ∈ wsL_law := wl_31 _ (List.mem_of_getElem? (i := 8) rfl)
theorem q_729 : Cond.constantLong RX4 232 (1741) ∈ wsL_law := wl_31 _ (List.mem_of_getElem? (i := 9) rfl)
theorem q_730 : Cond.constantLong RX4 234 (31) ∈ wsL_law := wl_31 _ (List.mem_of_getElem? (i := 10) rfl)
theorem q_731 : Cond.methodLink RX4 236 yX4_count ∈ wsL_law := wl_31 _ (List.mem_of_getElem? (i := 11) rfl)
theorem q_732 : Cond.methodLink RX4 239 yX4_about ∈ wsL_law := wl_31 _ (List.mem_of_getElem? (i := 12) rfl)
theorem q_733 : Cond.methodLink RX4 242 yX4_told ∈ wsL_law := wl_31 _ (List.mem_of_getElem? (i := 13) rfl)
theorem q_734 : Cond.methodLink RX4 245 yX4_digestOfColumn ∈ wsL_law := wl_31 _ (List.mem_of_getElem? (i := 14) rfl)
theorem q_735 : Cond.instanceMethod yX4_digestOfColumn ∈ wsL_law := wl_31 _ (List.mem_of_getElem? (i := 15) rfl)
theorem q_736 : Cond.selects RX4 yX4_digestOfColumn yX4_digestOfColumn ∈ wsL_law := wl_31 _ (List.mem_of_getElem? (i := 16) rfl)
theorem q_737 : Cond.code yX4_digestOfColumn cX4_digestOfColumn 8 (some .long) ∈ wsL_law := wl_31 _ (List.mem_of_getElem? (i := 17) rfl)
theorem q_738 : Cond.methodLink RX4 249 yX4_cord ∈ wsL_law := wl_31 _ (List.mem_of_getElem? (i := 18) rfl)
theorem q_739 : Cond.methodLink RX4 252 yX4_cell ∈ wsL_law := wl_31 _ (List.mem_of_getElem? (i := 19) rfl)
theorem q_740 : Cond.methodLink RL 131 yX5_digest ∈ wsL_law := wl_31 _ (List.mem_of_getElem? (i := 20) rfl)
theorem q_741 : Cond.instanceMethod yX5_digest ∈ wsL_law := wl_31 _ (List.mem_of_getElem? (i := 21) rfl)
theorem q_742 : Cond.selects RX5 yX5_digest yX5_digest ∈ wsL_law := wl_31 _ (List.mem_of_getElem? (i := 22) rfl)
theorem q_743 : Cond.code yX5_digest cX5_digest 6 (some .long) ∈ wsL_law := wl_31 _ (List.mem_of_getElem? (i := 23) rfl)
theorem q_744 : Cond.constantLong RX5 169 (1741) ∈ wsL_law := wl_32 _ (List.mem_of_getElem? (i := 0) rfl)
theorem q_745 : Cond.constantLong RX5 171 (31) ∈ wsL_law := wl_32 _ (List.mem_of_getElem? (i := 1) rfl)
end
section
theorem dX0_init_0 : decode cX0_init 0 = .ok (.aload_n 0, 1) := by decide +kernel
theorem dX0_init_1 : decode cX0_init 1 = .ok (.invokespecial 3, 3) := by decide +kernel
theorem dX0_init_4 : decode cX0_init 4 = .ok (.aload_n 0, 1) := by decide +kernel
theorem dX0_init_5 : decode cX0_init 5 = .ok (.iload_n 1, 1) := by decide +kernel
theorem dX0_init_6 : decode cX0_init 6 = .ok (.putfield 9, 3) := by decide +kernel
theorem dX0_init_9 : decode cX0_init 9 = .ok (.aload_n 0, 1) := by decide +kernel
theorem dX0_init_10 : decode cX0_init 10 = .ok (.iload_n 2, 1) := by decide +kernel
theorem dX0_init_11 : decode cX0_init 11 = .ok (.putfield 15, 3) := by decide +kernel
theorem dX0_init_14 : decode cX0_init 14 = .ok (.aload_n 0, 1) := by decide +kernel
theorem dX0_init_15 : decode cX0_init 15 = .ok (.iload_n 3, 1) := by decide +kernel
theorem dX0_init_16 : decode cX0_init 16 = .ok (.putfield 18, 3) := by decide +kernel
theorem dX0_init_19 : decode cX0_init 19 = .ok (.aload_n 0, 1) := by decide +kernel
theorem dX0_init_20 : decode cX0_init 20 = .ok (.iload 4, 2) := by decide +kernel
theorem dX0_init_22 : decode cX0_init 22 = .ok (.putfield 21, 3) := by decide +kernel
theorem dX0_init_25 : decode cX0_init 25 = .ok (.aload_n 0, 1) := by decide +kernel
theorem dX0_init_26 : decode cX0_init 26 = .ok (.iload 5, 2) := by decide +kernel
theorem dX0_init_28 : decode cX0_init 28 = .ok (.putfield 24, 3) := by decide +kernel
theorem dX0_init_31 : decode cX0_init 31 = .ok (.aload_n 0, 1) := by decide +kernel
theorem dX0_init_32 : decode cX0_init 32 = .ok (.iload 6, 2) := by decide +kernel
theorem dX0_init_34 : decode cX0_init 34 = .ok (.putfield 27, 3) := by decide +kernel
theorem dX0_init_37 : decode cX0_init 37 = .ok (.aload_n 0, 1) := by decide +kernel
theorem dX0_init_38 : decode cX0_init 38 = .ok (.iconst 1, 1) := by decide +kernel
theorem dX0_init_39 : decode cX0_init 39 = .ok (.putfield 30, 3) := by decide +kernel
theorem dX0_init_42 : decode cX0_init 42 = .ok (.aload_n 0, 1) := by decide +kernel
theorem dX0_init_43 : decode cX0_init 43 = .ok (.iconst 0, 1) := by decide +kernel
theorem dX0_init_44 : decode cX0_init 44 = .ok (.putfield 34, 3) := by decide +kernel
theorem dX0_init_47 : decode cX0_init 47 = .ok (.return_, 1) := by decide +kernel
theorem dX0_covers_0 : decode cX0_covers 0 = .ok (.aload_n 0, 1) := by decide +kernel
theorem dX0_covers_1 : decode cX0_covers 1 = .ok (.getfield 30, 3) := by decide +kernel
theorem dX0_covers_4 : decode cX0_covers 4 = .ok (.ifCond .eq 49, 3) := by decide +kernel
theorem dX0_covers_7 : decode cX0_covers 7 = .ok (.iload_n 1, 1) := by decide +kernel
theorem dX0_covers_8 : decode cX0_covers 8 = .ok (.aload_n 0, 1) := by decide +kernel
theorem dX0_covers_9 : decode cX0_covers 9 = .ok (.getfield 9, 3) := by decide +kernel
theorem dX0_covers_12 : decode cX0_covers 12 = .ok (.if_icmp .lt 41, 3) := by decide +kernel
theorem dX0_covers_15 : decode cX0_covers 15 = .ok (.iload_n 1, 1) := by decide +kernel
theorem dX0_covers_16 : decode cX0_covers 16 = .ok (.aload_n 0, 1) := by decide +kernel
theorem dX0_covers_17 : decode cX0_covers 17 = .ok (.getfield 9, 3) := by decide +kernel
theorem dX0_covers_20 : decode cX0_covers 20 = .ok (.aload_n 0, 1) := by decide +kernel
theorem dX0_covers_21 : decode cX0_covers 21 = .ok (.getfield 18, 3) := by decide +kernel
theorem dX0_covers_24 : decode cX0_covers 24 = .ok (.iadd, 1) := by decide +kernel
theorem dX0_covers_25 : decode cX0_covers 25 = .ok (.if_icmp .ge 28, 3) := by decide +kernel
theorem dX0_covers_28 : decode cX0_covers 28 = .ok (.iload_n 2, 1) := by decide +kernel
theorem dX0_covers_29 : decode cX0_covers 29 = .ok (.aload_n 0, 1) := by decide +kernel
theorem dX0_covers_30 : decode cX0_covers 30 = .ok (.getfield 15, 3) := by decide +kernel
theorem dX0_covers_33 : decode cX0_covers 33 = .ok (.if_icmp .lt 20, 3) := by decide +kernel
theorem dX0_covers_36 : decode cX0_covers 36 = .ok (.iload_n 2, 1) := by decide +kernel
theorem dX0_covers_37 : decode cX0_covers 37 = .ok (.aload_n 0, 1) := by decide +kernel
theorem dX0_covers_38 : decode cX0_covers 38 = .ok (.getfield 15, 3) := by decide +kernel
theorem dX0_covers_41 : decode cX0_covers 41 = .ok (.aload_n 0, 1) := by decide +kernel
theorem dX0_covers_42 : decode cX0_covers 42 = .ok (.getfield 21, 3) := by decide +kernel
theorem dX0_covers_45 : decode cX0_covers 45 = .ok (.iadd, 1) := by decide +kernel
theorem dX0_covers_46 : decode cX0_covers 46 = .ok (.if_icmp .ge 7, 3) := by decide +kernel
theorem dX0_covers_49 : decode cX0_covers 49 = .ok (.iconst 1, 1) := by decide +kernel
theorem dX0_covers_50 : decode cX0_covers 50 = .ok (.goto 4, 3) := by decide +kernel
theorem dX0_covers_53 : decode cX0_covers 53 = .ok (.iconst 0, 1) := by decide +kernel
theorem dX0_covers_54 : decode cX0_covers 54 = .ok (.ireturn, 1) := by decide +kernel
theorem dX0_dripsAlongRows_0 : decode cX0_dripsAlongRows 0 = .ok (.aload_n 0, 1) := by decide +kernel
theorem dX0_dripsAlongRows_1 : decode cX0_dripsAlongRows 1 = .ok (.getfield 27, 3) := by decide +kernel
theorem dX0_dripsAlongRows_4 : decode cX0_dripsAlongRows 4 = .ok (.ifCond .eq 11, 3) := by decide +kernel
theorem dX0_dripsAlongRows_7 : decode cX0_dripsAlongRows 7 = .ok (.aload_n 0, 1) := by decide +kernel
theorem dX0_dripsAlongRows_8 : decode cX0_dripsAlongRows 8 = .ok (.getfield 27, 3) := by decide +kernel
theorem dX0_dripsAlongRows_11 : decode cX0_dripsAlongRows 11 = .ok (.iconst 2, 1) := by decide +kernel
theorem dX0_dripsAlongRows_12 : decode cX0_dripsAlongRows 12 = .ok (.if_icmp .ne 7, 3) := by decide +kernel
theorem dX0_dripsAlongRows_15 : decode cX0_dripsAlongRows 15 = .ok (.iconst 1, 1) := by decide +kernel
theorem dX0_dripsAlongRows_16 : decode cX0_dripsAlongRows 16 = .ok (.goto 4, 3) := by decide +kernel
theorem dX0_dripsAlongRows_19 : decode cX0_dripsAlongRows 19 = .ok (.iconst 0, 1) := by decide +kernel
theorem dX0_dripsAlongRows_20 : decode cX0_dripsAlongRows 20 = .ok (.ireturn, 1) := by decide +kernel
theorem dX0_cellsBeyond_0 : decode cX0_cellsBeyond 0 = .ok (.aload_n 0, 1) := by decide +kernel
theorem dX0_cellsBeyond_1 : decode cX0_cellsBeyond 1 = .ok (.invokevirtual 37, 3) := by decide +kernel
theorem dX0_cellsBeyond_4 : decode cX0_cellsBeyond 4 = .ok (.ifCond .eq 10, 3) := by decide +kernel
theorem dX0_cellsBeyond_7 : decode cX0_cellsBeyond 7 = .ok (.aload_n 0, 1) := by decide +kernel
theorem dX0_cellsBeyond_8 : decode cX0_cellsBeyond 8 = .ok (.getfield 21, 3) := by decide +kernel
theorem dX0_cellsBeyond_11 : decode cX0_cellsBeyond 11 = .ok (.goto 7, 3) := by decide +kernel
theorem dX0_cellsBeyond_14 : decode cX0_cellsBeyond 14 = .ok (.aload_n 0, 1) := by decide +kernel
theorem dX0_cellsBeyond_15 : decode cX0_cellsBeyond 15 = .ok (.getfield 18, 3) := by decide +kernel
theorem dX0_cellsBeyond_18 : decode cX0_cellsBeyond 18 = .ok (.ireturn, 1) := by decide +kernel
theorem dX0_columnBeyond_0 : decode cX0_columnBeyond 0 = .ok (.aload_n 0, 1) := by decide +kernel
theorem dX0_columnBeyond_1 : decode cX0_columnBeyond 1 = .ok (.invokevirtual 37, 3) := by decide +kernel
theorem dX0_columnBeyond_4 : decode cX0_columnBeyond 4 = .ok (.ifCond .eq 29, 3) := by decide +kernel
theorem dX0_columnBeyond_7 : decode cX0_columnBeyond 7 = .ok (.aload_n 0, 1) := by decide +kernel
theorem dX0_columnBeyond_8 : decode cX0_columnBeyond 8 = .ok (.getfield 27, 3) := by decide +kernel
theorem dX0_columnBeyond_11 : decode cX0_columnBeyond 11 = .ok (.ifCond .ne 12, 3) := by decide +kernel
theorem dX0_columnBeyond_14 : decode cX0_columnBeyond 14 = .ok (.aload_n 0, 1) := by decide +kernel
theorem dX0_columnBeyond_15 : decode cX0_columnBeyond 15 = .ok (.getfield 9, 3) := by decide +kernel
theorem dX0_columnBeyond_18 : decode cX0_columnBeyond 18 = .ok (.iconst 1, 1) := by decide +kernel
theorem dX0_columnBeyond_19 : decode cX0_columnBeyond 19 = .ok (.isub, 1) := by decide +kernel
theorem dX0_columnBeyond_20 : decode cX0_columnBeyond 20 = .ok (.goto 12, 3) := by decide +kernel
theorem dX0_columnBeyond_23 : decode cX0_columnBeyond 23 = .ok (.aload_n 0, 1) := by decide +kernel
theorem dX0_columnBeyond_24 : decode cX0_columnBeyond 24 = .ok (.getfield 9, 3) := by decide +kernel
theorem dX0_columnBeyond_27 : decode cX0_columnBeyond 27 = .ok (.aload_n 0, 1) := by decide +kernel
theorem dX0_columnBeyond_28 : decode cX0_columnBeyond 28 = .ok (.getfield 18, 3) := by decide +kernel
theorem dX0_columnBeyond_31 : decode cX0_columnBeyond 31 = .ok (.iadd, 1) := by decide +kernel
theorem dX0_columnBeyond_32 : decode cX0_columnBeyond 32 = .ok (.ireturn, 1) := by decide +kernel
theorem dX0_columnBeyond_33 : decode cX0_columnBeyond 33 = .ok (.aload_n 0, 1) := by decide +kernel
theorem dX0_columnBeyond_34 : decode cX0_columnBeyond 34 = .ok (.getfield 9, 3) := by decide +kernel
theorem dX0_columnBeyond_37 : decode cX0_columnBeyond 37 = .ok (.iload_n 1, 1) := by decide +kernel
theorem dX0_columnBeyond_38 : decode cX0_columnBeyond 38 = .ok (.iadd, 1) := by decide +kernel
theorem dX0_columnBeyond_39 : decode cX0_columnBeyond 39 = .ok (.ireturn, 1) := by decide +kernel
theorem dX0_rowBeyond_0 : decode cX0_rowBeyond 0 = .ok (.aload_n 0, 1) := by decide +kernel
theorem dX0_rowBeyond_1 : decode cX0_rowBeyond 1 = .ok (.invokevirtual 37, 3) := by decide +kernel
theorem dX0_rowBeyond_4 : decode cX0_rowBeyond 4 = .ok (.ifCond .eq 10, 3) := by decide +kernel
theorem dX0_rowBeyond_7 : decode cX0_rowBeyond 7 = .ok (.aload_n 0, 1) := by decide +kernel
theorem dX0_rowBeyond_8 : decode cX0_rowBeyond 8 = .ok (.getfield 15, 3) := by decide +kernel
theorem dX0_rowBeyond_11 : decode cX0_rowBeyond 11 = .ok (.iload_n 1, 1) := by decide +kernel
theorem dX0_rowBeyond_12 : decode cX0_rowBeyond 12 = .ok (.iadd, 1) := by decide +kernel
theorem dX0_rowBeyond_13 : decode cX0_rowBeyond 13 = .ok (.ireturn, 1) := by decide +kernel
theorem dX0_rowBeyond_14 : decode cX0_rowBeyond 14 = .ok (.aload_n 0, 1) := by decide +kernel
theorem dX0_rowBeyond_15 : decode cX0_rowBeyond 15 = .ok (.getfield 27, 3) := by decide +kernel
theorem dX0_rowBeyond_18 : decode cX0_rowBeyond 18 = .ok (.iconst 1, 1) := by decide +kernel
theorem dX0_rowBeyond_19 : decode cX0_rowBeyond 19 = .ok (.if_icmp .ne 12, 3) := by decide +kernel
theorem dX0_rowBeyond_22 : decode cX0_rowBeyond 22 = .ok (.aload_n 0, 1) := by decide +kernel
theorem dX0_rowBeyond_23 : decode cX0_rowBeyond 23 = .ok (.getfield 15, 3) := by decide +kernel
theorem dX0_rowBeyond_26 : decode cX0_rowBeyond 26 = .ok (.iconst 1, 1) := by decide +kernel
theorem dX0_rowBeyond_27 : decode cX0_rowBeyond 27 = .ok (.isub, 1) := by decide +kernel
theorem dX0_rowBeyond_28 : decode cX0_rowBeyond 28 = .ok (.goto 12, 3) := by decide +kernel
theorem dX0_rowBeyond_31 : decode cX0_rowBeyond 31 = .ok (.aload_n 0, 1) := by decide +kernel
theorem dX0_rowBeyond_32 : decode cX0_rowBeyond 32 = .ok (.getfield 15, 3) := by decide +kernel
theorem dX0_rowBeyond_35 : decode cX0_rowBeyond 35 = .ok (.aload_n 0, 1) := by decide +kernel
theorem dX0_rowBeyond_36 : decode cX0_rowBeyond 36 = .ok (.getfield 21, 3) := by decide +kernel
theorem dX0_rowBeyond_39 : decode cX0_rowBeyond 39 = .ok (.iadd, 1) := by decide +kernel
theorem dX0_rowBeyond_40 : decode cX0_rowBeyond 40 = .ok (.ireturn, 1) := by decide +kernel
theorem dX1_init_0 : decode cX1_init 0 = .ok (.aload_n 0, 1) := by decide +kernel
theorem dX1_init_1 : decode cX1_init 1 = .ok (.invokespecial 3, 3) := by decide +kernel
theorem dX1_init_4 : decode cX1_init 4 = .ok (.aload_n 0, 1) := by decide +kernel
theorem dX1_init_5 : decode cX1_init 5 = .ok (.new 9, 3) := by decide +kernel
theorem dX1_init_8 : decode cX1_init 8 = .ok (.dup, 1) := by decide +kernel
theorem dX1_init_9 : decode cX1_init 9 = .ok (.invokespecial 11, 3) := by decide +kernel
theorem dX1_init_12 : decode cX1_init 12 = .ok (.putfield 12, 3) := by decide +kernel
theorem dX1_init_15 : decode cX1_init 15 = .ok (.aload_n 0, 1) := by decide +kernel
theorem dX1_init_16 : decode cX1_init 16 = .ok (.sipush 576, 3) := by decide +kernel
theorem dX1_init_19 : decode cX1_init 19 = .ok (.newarray .int, 2) := by decide +kernel
theorem dX1_init_21 : decode cX1_init 21 = .ok (.putfield 18, 3) := by decide +kernel
theorem dX1_init_24 : decode cX1_init 24 = .ok (.aload_n 0, 1) := by decide +kernel
theorem dX1_init_25 : decode cX1_init 25 = .ok (.sipush 576, 3) := by decide +kernel
theorem dX1_init_28 : decode cX1_init 28 = .ok (.newarray .int, 2) := by decide +kernel
theorem dX1_init_30 : decode cX1_init 30 = .ok (.putfield 22, 3) := by decide +kernel
theorem dX1_init_33 : decode cX1_init 33 = .ok (.aload_n 0, 1) := by decide +kernel
theorem dX1_init_34 : decode cX1_init 34 = .ok (.sipush 576, 3) := by decide +kernel
theorem dX1_init_37 : decode cX1_init 37 = .ok (.newarray .int, 2) := by decide +kernel
theorem dX1_init_39 : decode cX1_init 39 = .ok (.putfield 25, 3) := by decide +kernel
theorem dX1_init_42 : decode cX1_init 42 = .ok (.aload_n 0, 1) := by decide +kernel
theorem dX1_init_43 : decode cX1_init 43 = .ok (.iconst 0, 1) := by decide +kernel
theorem dX1_init_44 : decode cX1_init 44 = .ok (.putfield 28, 3) := by decide +kernel
theorem dX1_init_47 : decode cX1_init 47 = .ok (.return_, 1) := by decide +kernel
theorem dX1_size_0 : decode cX1_size 0 = .ok (.aload_n 0, 1) := by decide +kernel
theorem dX1_size_1 : decode cX1_size 1 = .ok (.getfield 12, 3) := by decide +kernel
theorem dX1_size_4 : decode cX1_size 4 = .ok (.invokevirtual 32, 3) := by decide +kernel
theorem dX1_size_7 : decode cX1_size 7 = .ok (.ireturn, 1) := by decide +kernel
theorem dX1_sizeOut_0 : decode cX1_sizeOut 0 = .ok (.iconst 0, 1) := by decide +kernel
theorem dX1_sizeOut_1 : decode cX1_sizeOut 1 = .ok (.istore_n 1, 1) := by decide +kernel
theorem dX1_sizeOut_2 : decode cX1_sizeOut 2 = .ok (.iconst 0, 1) := by decide +kernel
theorem dX1_sizeOut_3 : decode cX1_sizeOut 3 = .ok (.istore_n 2, 1) := by decide +kernel
theorem dX1_sizeOut_4 : decode cX1_sizeOut 4 = .ok (.iload_n 2, 1) := by decide +kernel
theorem dX1_sizeOut_5 : decode cX1_sizeOut 5 = .ok (.aload_n 0, 1) := by decide +kernel
theorem dX1_sizeOut_6 : decode cX1_sizeOut 6 = .ok (.getfield 12, 3) := by decide +kernel
theorem dX1_sizeOut_9 : decode cX1_sizeOut 9 = .ok (.invokevirtual 32, 3) := by decide +kernel
theorem dX1_sizeOut_12 : decode cX1_sizeOut 12 = .ok (.if_icmp .ge 29, 3) := by decide +kernel
theorem dX1_sizeOut_15 : decode cX1_sizeOut 15 = .ok (.aload_n 0, 1) := by decide +kernel
theorem dX1_sizeOut_16 : decode cX1_sizeOut 16 = .ok (.getfield 12, 3) := by decide +kernel
theorem dX1_sizeOut_19 : decode cX1_sizeOut 19 = .ok (.iload_n 2, 1) := by decide +kernel
theorem dX1_sizeOut_20 : decode cX1_sizeOut 20 = .ok (.invokevirtual 36, 3) := by decide +kernel
theorem dX1_sizeOut_23 : decode cX1_sizeOut 23 = .ok (.checkcast 40, 3) := by decide +kernel
theorem dX1_sizeOut_26 : decode cX1_sizeOut 26 = .ok (.getfield 42, 3) := by decide +kernel
theorem dX1_sizeOut_29 : decode cX1_sizeOut 29 = .ok (.ifCond .eq 6, 3) := by decide +kernel
theorem dX1_sizeOut_32 : decode cX1_sizeOut 32 = .ok (.iinc 1 1, 3) := by decide +kernel
theorem dX1_sizeOut_35 : decode cX1_sizeOut 35 = .ok (.iinc 2 1, 3) := by decide +kernel
theorem dX1_sizeOut_38 : decode cX1_sizeOut 38 = .ok (.goto (-34), 3) := by decide +kernel
theorem dX1_sizeOut_41 : decode cX1_sizeOut 41 = .ok (.iload_n 1, 1) := by decide +kernel
theorem dX1_sizeOut_42 : decode cX1_sizeOut 42 = .ok (.ireturn, 1) := by decide +kernel
theorem dX1_numbered_0 : decode cX1_numbered 0 = .ok (.iload_n 1, 1) := by decide +kernel
theorem dX1_numbered_1 : decode cX1_numbered 1 = .ok (.ifCond .lt 14, 3) := by decide +kernel
theorem dX1_numbered_4 : decode cX1_numbered 4 = .ok (.iload_n 1, 1) := by decide +kernel
theorem dX1_numbered_5 : decode cX1_numbered 5 = .ok (.aload_n 0, 1) := by decide +kernel
theorem dX1_numbered_6 : decode cX1_numbered 6 = .ok (.getfield 12, 3) := by decide +kernel
theorem dX1_numbered_9 : decode cX1_numbered 9 = .ok (.invokevirtual 32, 3) := by decide +kernel
theorem dX1_numbered_12 : decode cX1_numbered 12 = .ok (.if_icmp .lt 13, 3) := by decide +kernel
theorem dX1_numbered_15 : decode cX1_numbered 15 = .ok (.new 46, 3) := by decide +kernel
theorem dX1_numbered_18 : decode cX1_numbered 18 = .ok (.dup, 1) := by decide +kernel
theorem dX1_numbered_19 : decode cX1_numbered 19 = .ok (.ldc 48, 2) := by decide +kernel
theorem dX1_numbered_21 : decode cX1_numbered 21 = .ok (.invokespecial 50, 3) := by decide +kernel
theorem dX1_numbered_24 : decode cX1_numbered 24 = .ok (.athrow, 1) := by decide +kernel
theorem dX1_numbered_25 : decode cX1_numbered 25 = .ok (.aload_n 0, 1) := by decide +kernel
theorem dX1_numbered_26 : decode cX1_numbered 26 = .ok (.getfield 12, 3) := by decide +kernel
theorem dX1_numbered_29 : decode cX1_numbered 29 = .ok (.iload_n 1, 1) := by decide +kernel
theorem dX1_numbered_30 : decode cX1_numbered 30 = .ok (.invokevirtual 36, 3) := by decide +kernel
theorem dX1_numbered_33 : decode cX1_numbered 33 = .ok (.checkcast 40, 3) := by decide +kernel
theorem dX1_numbered_36 : decode cX1_numbered 36 = .ok (.areturn, 1) := by decide +kernel
theorem dX1_append_0 : decode cX1_append 0 = .ok (.aload_n 0, 1) := by decide +kernel
theorem dX1_append_1 : decode cX1_append 1 = .ok (.getfield 12, 3) := by decide +kernel
theorem dX1_append_4 : decode cX1_append 4 = .ok (.aload_n 1, 1) := by decide +kernel
theorem dX1_append_5 : decode cX1_append 5 = .ok (.invokevirtual 53, 3) := by decide +kernel
theorem dX1_append_8 : decode cX1_append 8 = .ok (.pop, 1) := by decide +kernel
theorem dX1_append_9 : decode cX1_append 9 = .ok (.aload_n 0, 1) := by decide +kernel
theorem dX1_append_10 : decode cX1_append 10 = .ok (.invokevirtual 57, 3) := by decide +kernel
theorem dX1_append_13 : decode cX1_append 13 = .ok (.return_, 1) := by decide +kernel
theorem dX1_drop_0 : decode cX1_drop 0 = .ok (.iload_n 1, 1) := by decide +kernel
theorem dX1_drop_1 : decode cX1_drop 1 = .ok (.ifCond .lt 14, 3) := by decide +kernel
theorem dX1_drop_4 : decode cX1_drop 4 = .ok (.iload_n 1, 1) := by decide +kernel
theorem dX1_drop_5 : decode cX1_drop 5 = .ok (.aload_n 0, 1) := by decide +kernel
theorem dX1_drop_6 : decode cX1_drop 6 = .ok (.getfield 12, 3) := by decide +kernel
theorem dX1_drop_9 : decode cX1_drop 9 = .ok (.invokevirtual 32, 3) := by decide +kernel
theorem dX1_drop_12 : decode cX1_drop 12 = .ok (.if_icmp .lt 13, 3) := by decide +kernel
theorem dX1_drop_15 : decode cX1_drop 15 = .ok (.new 46, 3) := by decide +kernel
theorem dX1_drop_18 : decode cX1_drop 18 = .ok (.dup, 1) := by decide +kernel
theorem dX1_drop_19 : decode cX1_drop 19 = .ok (.ldc 48, 2) := by decide +kernel
theorem dX1_drop_21 : decode cX1_drop 21 = .ok (.invokespecial 50, 3) := by decide +kernel
theorem dX1_drop_24 : decode cX1_drop 24 = .ok (.athrow, 1) := by decide +kernel
theorem dX1_drop_25 : decode cX1_drop 25 = .ok (.aload_n 0, 1) := by decide +kernel
theorem dX1_drop_26 : decode cX1_drop 26 = .ok (.getfield 12, 3) := by decide +kernel
theorem dX1_drop_29 : decode cX1_drop 29 = .ok (.iload_n 1, 1) := by decide +kernel
theorem dX1_drop_30 : decode cX1_drop 30 = .ok (.invokevirtual 60, 3) := by decide +kernel
theorem dX1_drop_33 : decode cX1_drop 33 = .ok (.pop, 1) := by decide +kernel
theorem dX1_drop_34 : decode cX1_drop 34 = .ok (.aload_n 0, 1) := by decide +kernel
theorem dX1_drop_35 : decode cX1_drop 35 = .ok (.invokevirtual 57, 3) := by decide +kernel
theorem dX1_drop_38 : decode cX1_drop 38 = .ok (.return_, 1) := by decide +kernel
theorem dX1_layOut_0 : decode cX1_layOut 0 = .ok (.aload_n 0, 1) := by decide +kernel
theorem dX1_layOut_1 : decode cX1_layOut 1 = .ok (.getfield 18, 3) := by decide +kernel
theorem dX1_layOut_4 : decode cX1_layOut 4 = .ok (.iconst 0, 1) := by decide +kernel
theorem dX1_layOut_5 : decode cX1_layOut 5 = .ok (.invokestatic 63, 3) := by decide +kernel
theorem dX1_layOut_8 : decode cX1_layOut 8 = .ok (.iconst 0, 1) := by decide +kernel
theorem dX1_layOut_9 : decode cX1_layOut 9 = .ok (.istore_n 1, 1) := by decide +kernel
theorem dX1_layOut_10 : decode cX1_layOut 10 = .ok (.iload_n 1, 1) := by decide +kernel
theorem dX1_layOut_11 : decode cX1_layOut 11 = .ok (.aload_n 0, 1) := by decide +kernel
theorem dX1_layOut_12 : decode cX1_layOut 12 = .ok (.getfield 12, 3) := by decide +kernel
theorem dX1_layOut_15 : decode cX1_layOut 15 = .ok (.invokevirtual 32, 3) := by decide +kernel
theorem dX1_layOut_18 : decode cX1_layOut 18 = .ok (.if_icmp .ge 41, 3) := by decide +kernel
theorem dX1_layOut_21 : decode cX1_layOut 21 = .ok (.aload_n 0, 1) := by decide +kernel
theorem dX1_layOut_22 : decode cX1_layOut 22 = .ok (.getfield 12, 3) := by decide +kernel
theorem dX1_layOut_25 : decode cX1_layOut 25 = .ok (.iload_n 1, 1) := by decide +kernel
theorem dX1_layOut_26 : decode cX1_layOut 26 = .ok (.invokevirtual 36, 3) := by decide +kernel
theorem dX1_layOut_29 : decode cX1_layOut 29 = .ok (.checkcast 40, 3) := by decide +kernel
theorem dX1_layOut_32 : decode cX1_layOut 32 = .ok (.getfield 42, 3) := by decide +kernel
theorem dX1_layOut_35 : decode cX1_layOut 35 = .ok (.ifCond .eq 18, 3) := by decide +kernel
theorem dX1_layOut_38 : decode cX1_layOut 38 = .ok (.aload_n 0, 1) := by decide +kernel
theorem dX1_layOut_39 : decode cX1_layOut 39 = .ok (.aload_n 0, 1) := by decide +kernel
theorem dX1_layOut_40 : decode cX1_layOut 40 = .ok (.getfield 12, 3) := by decide +kernel
theorem dX1_layOut_43 : decode cX1_layOut 43 = .ok (.iload_n 1, 1) := by decide +kernel
theorem dX1_layOut_44 : decode cX1_layOut 44 = .ok (.invokevirtual 36, 3) := by decide +kernel
theorem dX1_layOut_47 : decode cX1_layOut 47 = .ok (.checkcast 40, 3) := by decide +kernel
theorem dX1_layOut_50 : decode cX1_layOut 50 = .ok (.invokevirtual 69, 3) := by decide +kernel
theorem dX1_layOut_53 : decode cX1_layOut 53 = .ok (.iinc 1 1, 3) := by decide +kernel
theorem dX1_layOut_56 : decode cX1_layOut 56 = .ok (.goto (-46), 3) := by decide +kernel
theorem dX1_layOut_59 : decode cX1_layOut 59 = .ok (.return_, 1) := by decide +kernel
theorem dX1_layOver_0 : decode cX1_layOver 0 = .ok (.aload_n 1, 1) := by decide +kernel
theorem dX1_layOver_1 : decode cX1_layOver 1 = .ok (.getfield 73, 3) := by decide +kernel
theorem dX1_layOver_4 : decode cX1_layOver 4 = .ok (.istore_n 2, 1) := by decide +kernel
theorem dX1_layOver_5 : decode cX1_layOver 5 = .ok (.iload_n 2, 1) := by decide +kernel
theorem dX1_layOver_6 : decode cX1_layOver 6 = .ok (.aload_n 1, 1) := by decide +kernel
theorem dX1_layOver_7 : decode cX1_layOver 7 = .ok (.getfield 73, 3) := by decide +kernel
theorem dX1_layOver_10 : decode cX1_layOver 10 = .ok (.aload_n 1, 1) := by decide +kernel
theorem dX1_layOver_11 : decode cX1_layOver 11 = .ok (.getfield 76, 3) := by decide +kernel
theorem dX1_layOver_14 : decode cX1_layOver 14 = .ok (.iadd, 1) := by decide +kernel
theorem dX1_layOver_15 : decode cX1_layOver 15 = .ok (.if_icmp .ge 56, 3) := by decide +kernel
theorem dX1_layOver_18 : decode cX1_layOver 18 = .ok (.aload_n 1, 1) := by decide +kernel
theorem dX1_layOver_19 : decode cX1_layOver 19 = .ok (.getfield 79, 3) := by decide +kernel
theorem dX1_layOver_22 : decode cX1_layOver 22 = .ok (.istore_n 3, 1) := by decide +kernel
theorem dX1_layOver_23 : decode cX1_layOver 23 = .ok (.iload_n 3, 1) := by decide +kernel
theorem dX1_layOver_24 : decode cX1_layOver 24 = .ok (.aload_n 1, 1) := by decide +kernel
theorem dX1_layOver_25 : decode cX1_layOver 25 = .ok (.getfield 79, 3) := by decide +kernel
theorem dX1_layOver_28 : decode cX1_layOver 28 = .ok (.aload_n 1, 1) := by decide +kernel
theorem dX1_layOver_29 : decode cX1_layOver 29 = .ok (.getfield 82, 3) := by decide +kernel
theorem dX1_layOver_32 : decode cX1_layOver 32 = .ok (.iadd, 1) := by decide +kernel
theorem dX1_layOver_33 : decode cX1_layOver 33 = .ok (.if_icmp .ge 32, 3) := by decide +kernel
theorem dX1_layOver_36 : decode cX1_layOver 36 = .ok (.iload_n 3, 1) := by decide +kernel
theorem dX1_layOver_37 : decode cX1_layOver 37 = .ok (.iload_n 2, 1) := by decide +kernel
theorem dX1_layOver_38 : decode cX1_layOver 38 = .ok (.invokestatic 85, 3) := by decide +kernel
theorem dX1_layOver_41 : decode cX1_layOver 41 = .ok (.ifCond .eq 18, 3) := by decide +kernel
theorem dX1_layOver_44 : decode cX1_layOver 44 = .ok (.aload_n 0, 1) := by decide +kernel
theorem dX1_layOver_45 : decode cX1_layOver 45 = .ok (.getfield 18, 3) := by decide +kernel
theorem dX1_layOver_48 : decode cX1_layOver 48 = .ok (.iload_n 2, 1) := by decide +kernel
theorem dX1_layOver_49 : decode cX1_layOver 49 = .ok (.bipush 24, 2) := by decide +kernel
theorem dX1_layOver_51 : decode cX1_layOver 51 = .ok (.imul, 1) := by decide +kernel
theorem dX1_layOver_52 : decode cX1_layOver 52 = .ok (.iload_n 3, 1) := by decide +kernel
theorem dX1_layOver_53 : decode cX1_layOver 53 = .ok (.iadd, 1) := by decide +kernel
theorem dX1_layOver_54 : decode cX1_layOver 54 = .ok (.dup2, 1) := by decide +kernel
theorem dX1_layOver_55 : decode cX1_layOver 55 = .ok (.iaload, 1) := by decide +kernel
theorem dX1_layOver_56 : decode cX1_layOver 56 = .ok (.iconst 1, 1) := by decide +kernel
theorem dX1_layOver_57 : decode cX1_layOver 57 = .ok (.iadd, 1) := by decide +kernel
theorem dX1_layOver_58 : decode cX1_layOver 58 = .ok (.iastore, 1) := by decide +kernel
theorem dX1_layOver_59 : decode cX1_layOver 59 = .ok (.iinc 3 1, 3) := by decide +kernel
theorem dX1_layOver_62 : decode cX1_layOver 62 = .ok (.goto (-39), 3) := by decide +kernel
theorem dX1_layOver_65 : decode cX1_layOver 65 = .ok (.iinc 2 1, 3) := by decide +kernel
theorem dX1_layOver_68 : decode cX1_layOver 68 = .ok (.goto (-63), 3) := by decide +kernel
theorem dX1_layOver_71 : decode cX1_layOver 71 = .ok (.return_, 1) := by decide +kernel
theorem dX1_layersAt_0 : decode cX1_layersAt 0 = .ok (.iload_n 1, 1) := by decide +kernel
theorem dX1_layersAt_1 : decode cX1_layersAt 1 = .ok (.iload_n 2, 1) := by decide +kernel
theorem dX1_layersAt_2 : decode cX1_layersAt 2 = .ok (.invokestatic 85, 3) := by decide +kernel
theorem dX1_layersAt_5 : decode cX1_layersAt 5 = .ok (.ifCond .eq 17, 3) := by decide +kernel
theorem dX1_layersAt_8 : decode cX1_layersAt 8 = .ok (.aload_n 0, 1) := by decide +kernel
theorem dX1_layersAt_9 : decode cX1_layersAt 9 = .ok (.getfield 18, 3) := by decide +kernel
theorem dX1_layersAt_12 : decode cX1_layersAt 12 = .ok (.iload_n 2, 1) := by decide +kernel
theorem dX1_layersAt_13 : decode cX1_layersAt 13 = .ok (.bipush 24, 2) := by decide +kernel
theorem dX1_layersAt_15 : decode cX1_layersAt 15 = .ok (.imul, 1) := by decide +kernel
theorem dX1_layersAt_16 : decode cX1_layersAt 16 = .ok (.iload_n 1, 1) := by decide +kernel
theorem dX1_layersAt_17 : decode cX1_layersAt 17 = .ok (.iadd, 1) := by decide +kernel
theorem dX1_layersAt_18 : decode cX1_layersAt 18 = .ok (.iaload, 1) := by decide +kernel
theorem dX1_layersAt_19 : decode cX1_layersAt 19 = .ok (.goto 4, 3) := by decide +kernel
theorem dX1_layersAt_22 : decode cX1_layersAt 22 = .ok (.iconst 0, 1) := by decide +kernel
theorem dX1_layersAt_23 : decode cX1_layersAt 23 = .ok (.ireturn, 1) := by decide +kernel
theorem dX1_highestBelow_0 : decode cX1_highestBelow 0 = .ok (.iconst (-1), 1) := by decide +kernel
theorem dX1_highestBelow_1 : decode cX1_highestBelow 1 = .ok (.istore 4, 2) := by decide +kernel
theorem dX1_highestBelow_3 : decode cX1_highestBelow 3 = .ok (.iconst 0, 1) := by decide +kernel
theorem dX1_highestBelow_4 : decode cX1_highestBelow 4 = .ok (.istore 5, 2) := by decide +kernel
theorem dX1_highestBelow_6 : decode cX1_highestBelow 6 = .ok (.iconst 0, 1) := by decide +kernel
theorem dX1_highestBelow_7 : decode cX1_highestBelow 7 = .ok (.istore 6, 2) := by decide +kernel
theorem dX1_highestBelow_9 : decode cX1_highestBelow 9 = .ok (.iload 6, 2) := by decide +kernel
theorem dX1_highestBelow_11 : decode cX1_highestBelow 11 = .ok (.aload_n 0, 1) := by decide +kernel
theorem dX1_highestBelow_12 : decode cX1_highestBelow 12 = .ok (.getfield 12, 3) := by decide +kernel
theorem dX1_highestBelow_15 : decode cX1_highestBelow 15 = .ok (.invokevirtual 32, 3) := by decide +kernel
theorem dX1_highestBelow_18 : decode cX1_highestBelow 18 = .ok (.if_icmp .ge 63, 3) := by decide +kernel
theorem dX1_highestBelow_21 : decode cX1_highestBelow 21 = .ok (.aload_n 0, 1) := by decide +kernel
theorem dX1_highestBelow_22 : decode cX1_highestBelow 22 = .ok (.getfield 12, 3) := by decide +kernel
theorem dX1_highestBelow_25 : decode cX1_highestBelow 25 = .ok (.iload 6, 2) := by decide +kernel
theorem dX1_highestBelow_27 : decode cX1_highestBelow 27 = .ok (.invokevirtual 36, 3) := by decide +kernel
theorem dX1_highestBelow_30 : decode cX1_highestBelow 30 = .ok (.checkcast 40, 3) := by decide +kernel
theorem dX1_highestBelow_33 : decode cX1_highestBelow 33 = .ok (.astore 7, 2) := by decide +kernel
theorem dX1_highestBelow_35 : decode cX1_highestBelow 35 = .ok (.aload 7, 2) := by decide +kernel
theorem dX1_highestBelow_37 : decode cX1_highestBelow 37 = .ok (.getfield 89, 3) := by decide +kernel
theorem dX1_highestBelow_40 : decode cX1_highestBelow 40 = .ok (.iload_n 1, 1) := by decide +kernel
theorem dX1_highestBelow_41 : decode cX1_highestBelow 41 = .ok (.if_icmp .ge 34, 3) := by decide +kernel
theorem dX1_highestBelow_44 : decode cX1_highestBelow 44 = .ok (.aload 7, 2) := by decide +kernel
theorem dX1_highestBelow_46 : decode cX1_highestBelow 46 = .ok (.getfield 89, 3) := by decide +kernel
theorem dX1_highestBelow_49 : decode cX1_highestBelow 49 = .ok (.iload 5, 2) := by decide +kernel
theorem dX1_highestBelow_51 : decode cX1_highestBelow 51 = .ok (.if_icmp .le 24, 3) := by decide +kernel
theorem dX1_highestBelow_54 : decode cX1_highestBelow 54 = .ok (.aload 7, 2) := by decide +kernel
theorem dX1_highestBelow_56 : decode cX1_highestBelow 56 = .ok (.iload_n 2, 1) := by decide +kernel
theorem dX1_highestBelow_57 : decode cX1_highestBelow 57 = .ok (.iload_n 3, 1) := by decide +kernel
theorem dX1_highestBelow_58 : decode cX1_highestBelow 58 = .ok (.invokevirtual 92, 3) := by decide +kernel
theorem dX1_highestBelow_61 : decode cX1_highestBelow 61 = .ok (.ifCond .eq 14, 3) := by decide +kernel
theorem dX1_highestBelow_64 : decode cX1_highestBelow 64 = .ok (.iload 6, 2) := by decide +kernel
theorem dX1_highestBelow_66 : decode cX1_highestBelow 66 = .ok (.istore 4, 2) := by decide +kernel
theorem dX1_highestBelow_68 : decode cX1_highestBelow 68 = .ok (.aload 7, 2) := by decide +kernel
theorem dX1_highestBelow_70 : decode cX1_highestBelow 70 = .ok (.getfield 89, 3) := by decide +kernel
theorem dX1_highestBelow_73 : decode cX1_highestBelow 73 = .ok (.istore 5, 2) := by decide +kernel
theorem dX1_highestBelow_75 : decode cX1_highestBelow 75 = .ok (.iinc 6 1, 3) := by decide +kernel
theorem dX1_highestBelow_78 : decode cX1_highestBelow 78 = .ok (.goto (-69), 3) := by decide +kernel
theorem dX1_highestBelow_81 : decode cX1_highestBelow 81 = .ok (.iload 4, 2) := by decide +kernel
theorem dX1_highestBelow_83 : decode cX1_highestBelow 83 = .ok (.ireturn, 1) := by decide +kernel
theorem dX1_covered_0 : decode cX1_covered 0 = .ok (.aload_n 0, 1) := by decide +kernel
theorem dX1_covered_1 : decode cX1_covered 1 = .ok (.iconst 1, 1) := by decide +kernel
theorem dX1_covered_2 : decode cX1_covered 2 = .ok (.invokevirtual 95, 3) := by decide +kernel
theorem dX1_covered_5 : decode cX1_covered 5 = .ok (.ireturn, 1) := by decide +kernel
theorem dX1_cellsWithLayers_0 : decode cX1_cellsWithLayers 0 = .ok (.iconst 0, 1) := by decide +kernel
theorem dX1_cellsWithLayers_1 : decode cX1_cellsWithLayers 1 = .ok (.istore_n 2, 1) := by decide +kernel
theorem dX1_cellsWithLayers_2 : decode cX1_cellsWithLayers 2 = .ok (.iconst 0, 1) := by decide +kernel
theorem dX1_cellsWithLayers_3 : decode cX1_cellsWithLayers 3 = .ok (.istore_n 3, 1) := by decide +kernel
theorem dX1_cellsWithLayers_4 : decode cX1_cellsWithLayers 4 = .ok (.iload_n 3, 1) := by decide +kernel
theorem dX1_cellsWithLayers_5 : decode cX1_cellsWithLayers 5 = .ok (.sipush 576, 3) := by decide +kernel
theorem dX1_cellsWithLayers_8 : decode cX1_cellsWithLayers 8 = .ok (.if_icmp .ge 22, 3) := by decide +kernel
theorem dX1_cellsWithLayers_11 : decode cX1_cellsWithLayers 11 = .ok (.aload_n 0, 1) := by decide +kernel
theorem dX1_cellsWithLayers_12 : decode cX1_cellsWithLayers 12 = .ok (.getfield 18, 3) := by decide +kernel
theorem dX1_cellsWithLayers_15 : decode cX1_cellsWithLayers 15 = .ok (.iload_n 3, 1) := by decide +kernel
theorem dX1_cellsWithLayers_16 : decode cX1_cellsWithLayers 16 = .ok (.iaload, 1) := by decide +kernel
theorem dX1_cellsWithLayers_17 : decode cX1_cellsWithLayers 17 = .ok (.iload_n 1, 1) := by decide +kernel
theorem dX1_cellsWithLayers_18 : decode cX1_cellsWithLayers 18 = .ok (.if_icmp .lt 6, 3) := by decide +kernel
theorem dX1_cellsWithLayers_21 : decode cX1_cellsWithLayers 21 = .ok (.iinc 2 1, 3) := by decide +kernel
theorem dX1_cellsWithLayers_24 : decode cX1_cellsWithLayers 24 = .ok (.iinc 3 1, 3) := by decide +kernel
theorem dX1_cellsWithLayers_27 : decode cX1_cellsWithLayers 27 = .ok (.goto (-23), 3) := by decide +kernel
theorem dX1_cellsWithLayers_30 : decode cX1_cellsWithLayers 30 = .ok (.iload_n 2, 1) := by decide +kernel
theorem dX1_cellsWithLayers_31 : decode cX1_cellsWithLayers 31 = .ok (.ireturn, 1) := by decide +kernel
theorem dX1_coveredOnlyBy_0 : decode cX1_coveredOnlyBy 0 = .ok (.aload_n 1, 1) := by decide +kernel
theorem dX1_coveredOnlyBy_1 : decode cX1_coveredOnlyBy 1 = .ok (.getfield 42, 3) := by decide +kernel
theorem dX1_coveredOnlyBy_4 : decode cX1_coveredOnlyBy 4 = .ok (.ifCond .ne 5, 3) := by decide +kernel
theorem dX1_coveredOnlyBy_7 : decode cX1_coveredOnlyBy 7 = .ok (.iconst 0, 1) := by decide +kernel
theorem dX1_coveredOnlyBy_8 : decode cX1_coveredOnlyBy 8 = .ok (.ireturn, 1) := by decide +kernel
theorem dX1_coveredOnlyBy_9 : decode cX1_coveredOnlyBy 9 = .ok (.iconst 0, 1) := by decide +kernel
theorem dX1_coveredOnlyBy_10 : decode cX1_coveredOnlyBy 10 = .ok (.istore_n 2, 1) := by decide +kernel
theorem dX1_coveredOnlyBy_11 : decode cX1_coveredOnlyBy 11 = .ok (.aload_n 1, 1) := by decide +kernel
theorem dX1_coveredOnlyBy_12 : decode cX1_coveredOnlyBy 12 = .ok (.getfield 73, 3) := by decide +kernel
theorem dX1_coveredOnlyBy_15 : decode cX1_coveredOnlyBy 15 = .ok (.istore_n 3, 1) := by decide +kernel
theorem dX1_coveredOnlyBy_16 : decode cX1_coveredOnlyBy 16 = .ok (.iload_n 3, 1) := by decide +kernel
theorem dX1_coveredOnlyBy_17 : decode cX1_coveredOnlyBy 17 = .ok (.aload_n 1, 1) := by decide +kernel
theorem dX1_coveredOnlyBy_18 : decode cX1_coveredOnlyBy 18 = .ok (.getfield 73, 3) := by decide +kernel
theorem dX1_coveredOnlyBy_21 : decode cX1_coveredOnlyBy 21 = .ok (.aload_n 1, 1) := by decide +kernel
theorem dX1_coveredOnlyBy_22 : decode cX1_coveredOnlyBy 22 = .ok (.getfield 76, 3) := by decide +kernel
theorem dX1_coveredOnlyBy_25 : decode cX1_coveredOnlyBy 25 = .ok (.iadd, 1) := by decide +kernel
theorem dX1_coveredOnlyBy_26 : decode cX1_coveredOnlyBy 26 = .ok (.if_icmp .ge 49, 3) := by decide +kernel
theorem dX1_coveredOnlyBy_29 : decode cX1_coveredOnlyBy 29 = .ok (.aload_n 1, 1) := by decide +kernel
theorem dX1_coveredOnlyBy_30 : decode cX1_coveredOnlyBy 30 = .ok (.getfield 79, 3) := by decide +kernel
theorem dX1_coveredOnlyBy_33 : decode cX1_coveredOnlyBy 33 = .ok (.istore 4, 2) := by decide +kernel
theorem dX1_coveredOnlyBy_35 : decode cX1_coveredOnlyBy 35 = .ok (.iload 4, 2) := by decide +kernel
theorem dX1_coveredOnlyBy_37 : decode cX1_coveredOnlyBy 37 = .ok (.aload_n 1, 1) := by decide +kernel
theorem dX1_coveredOnlyBy_38 : decode cX1_coveredOnlyBy 38 = .ok (.getfield 79, 3) := by decide +kernel
theorem dX1_coveredOnlyBy_41 : decode cX1_coveredOnlyBy 41 = .ok (.aload_n 1, 1) := by decide +kernel
theorem dX1_coveredOnlyBy_42 : decode cX1_coveredOnlyBy 42 = .ok (.getfield 82, 3) := by decide +kernel
theorem dX1_coveredOnlyBy_45 : decode cX1_coveredOnlyBy 45 = .ok (.iadd, 1) := by decide +kernel
theorem dX1_coveredOnlyBy_46 : decode cX1_coveredOnlyBy 46 = .ok (.if_icmp .ge 23, 3) := by decide +kernel
theorem dX1_coveredOnlyBy_49 : decode cX1_coveredOnlyBy 49 = .ok (.aload_n 0, 1) := by decide +kernel
theorem dX1_coveredOnlyBy_50 : decode cX1_coveredOnlyBy 50 = .ok (.iload 4, 2) := by decide +kernel
theorem dX1_coveredOnlyBy_52 : decode cX1_coveredOnlyBy 52 = .ok (.iload_n 3, 1) := by decide +kernel
theorem dX1_coveredOnlyBy_53 : decode cX1_coveredOnlyBy 53 = .ok (.invokevirtual 99, 3) := by decide +kernel
theorem dX1_coveredOnlyBy_56 : decode cX1_coveredOnlyBy 56 = .ok (.iconst 1, 1) := by decide +kernel
theorem dX1_coveredOnlyBy_57 : decode cX1_coveredOnlyBy 57 = .ok (.if_icmp .ne 6, 3) := by decide +kernel
theorem dX1_coveredOnlyBy_60 : decode cX1_coveredOnlyBy 60 = .ok (.iinc 2 1, 3) := by decide +kernel
theorem dX1_coveredOnlyBy_63 : decode cX1_coveredOnlyBy 63 = .ok (.iinc 4 1, 3) := by decide +kernel
theorem dX1_coveredOnlyBy_66 : decode cX1_coveredOnlyBy 66 = .ok (.goto (-31), 3) := by decide +kernel
theorem dX1_coveredOnlyBy_69 : decode cX1_coveredOnlyBy 69 = .ok (.iinc 3 1, 3) := by decide +kernel
theorem dX1_coveredOnlyBy_72 : decode cX1_coveredOnlyBy 72 = .ok (.goto (-56), 3) := by decide +kernel
theorem dX1_coveredOnlyBy_75 : decode cX1_coveredOnlyBy 75 = .ok (.iload_n 2, 1) := by decide +kernel
theorem dX1_coveredOnlyBy_76 : decode cX1_coveredOnlyBy 76 = .ok (.ireturn, 1) := by decide +kernel
theorem dX1_notCoveredIn_0 : decode cX1_notCoveredIn 0 = .ok (.iconst 0, 1) := by decide +kernel
theorem dX1_notCoveredIn_1 : decode cX1_notCoveredIn 1 = .ok (.istore 5, 2) := by decide +kernel
theorem dX1_notCoveredIn_3 : decode cX1_notCoveredIn 3 = .ok (.iload_n 2, 1) := by decide +kernel
theorem dX1_notCoveredIn_4 : decode cX1_notCoveredIn 4 = .ok (.istore 6, 2) := by decide +kernel
theorem dX1_notCoveredIn_6 : decode cX1_notCoveredIn 6 = .ok (.iload 6, 2) := by decide +kernel
theorem dX1_notCoveredIn_8 : decode cX1_notCoveredIn 8 = .ok (.iload_n 2, 1) := by decide +kernel
theorem dX1_notCoveredIn_9 : decode cX1_notCoveredIn 9 = .ok (.iload 4, 2) := by decide +kernel
theorem dX1_notCoveredIn_11 : decode cX1_notCoveredIn 11 = .ok (.iadd, 1) := by decide +kernel
theorem dX1_notCoveredIn_12 : decode cX1_notCoveredIn 12 = .ok (.if_icmp .ge 40, 3) := by decide +kernel
theorem dX1_notCoveredIn_15 : decode cX1_notCoveredIn 15 = .ok (.iload_n 1, 1) := by decide +kernel
theorem dX1_notCoveredIn_16 : decode cX1_notCoveredIn 16 = .ok (.istore 7, 2) := by decide +kernel
theorem dX1_notCoveredIn_18 : decode cX1_notCoveredIn 18 = .ok (.iload 7, 2) := by decide +kernel
theorem dX1_notCoveredIn_20 : decode cX1_notCoveredIn 20 = .ok (.iload_n 1, 1) := by decide +kernel
theorem dX1_notCoveredIn_21 : decode cX1_notCoveredIn 21 = .ok (.iload_n 3, 1) := by decide +kernel
theorem dX1_notCoveredIn_22 : decode cX1_notCoveredIn 22 = .ok (.iadd, 1) := by decide +kernel
theorem dX1_notCoveredIn_23 : decode cX1_notCoveredIn 23 = .ok (.if_icmp .ge 23, 3) := by decide +kernel
theorem dX1_notCoveredIn_26 : decode cX1_notCoveredIn 26 = .ok (.aload_n 0, 1) := by decide +kernel
theorem dX1_notCoveredIn_27 : decode cX1_notCoveredIn 27 = .ok (.iload 7, 2) := by decide +kernel
theorem dX1_notCoveredIn_29 : decode cX1_notCoveredIn 29 = .ok (.iload 6, 2) := by decide +kernel
theorem dX1_notCoveredIn_31 : decode cX1_notCoveredIn 31 = .ok (.invokevirtual 99, 3) := by decide +kernel
theorem dX1_notCoveredIn_34 : decode cX1_notCoveredIn 34 = .ok (.ifCond .ne 6, 3) := by decide +kernel
theorem dX1_notCoveredIn_37 : decode cX1_notCoveredIn 37 = .ok (.iinc 5 1, 3) := by decide +kernel
theorem dX1_notCoveredIn_40 : decode cX1_notCoveredIn 40 = .ok (.iinc 7 1, 3) := by decide +kernel
theorem dX1_notCoveredIn_43 : decode cX1_notCoveredIn 43 = .ok (.goto (-25), 3) := by decide +kernel
theorem dX1_notCoveredIn_46 : decode cX1_notCoveredIn 46 = .ok (.iinc 6 1, 3) := by decide +kernel
theorem dX1_notCoveredIn_49 : decode cX1_notCoveredIn 49 = .ok (.goto (-43), 3) := by decide +kernel
theorem dX1_notCoveredIn_52 : decode cX1_notCoveredIn 52 = .ok (.iload 5, 2) := by decide +kernel
theorem dX1_notCoveredIn_54 : decode cX1_notCoveredIn 54 = .ok (.ireturn, 1) := by decide +kernel
theorem dX1_outline_0 : decode cX1_outline 0 = .ok (.iconst 0, 1) := by decide +kernel
theorem dX1_outline_1 : decode cX1_outline 1 = .ok (.istore_n 1, 1) := by decide +kernel
theorem dX1_outline_2 : decode cX1_outline 2 = .ok (.iconst 0, 1) := by decide +kernel
theorem dX1_outline_3 : decode cX1_outline 3 = .ok (.istore_n 2, 1) := by decide +kernel
theorem dX1_outline_4 : decode cX1_outline 4 = .ok (.iload_n 2, 1) := by decide +kernel
theorem dX1_outline_5 : decode cX1_outline 5 = .ok (.bipush 24, 2) := by decide +kernel
theorem dX1_outline_7 : decode cX1_outline 7 = .ok (.if_icmp .ge 41, 3) := by decide +kernel
theorem dX1_outline_10 : decode cX1_outline 10 = .ok (.iconst 0, 1) := by decide +kernel
theorem dX1_outline_11 : decode cX1_outline 11 = .ok (.istore_n 3, 1) := by decide +kernel
theorem dX1_outline_12 : decode cX1_outline 12 = .ok (.iload_n 3, 1) := by decide +kernel
theorem dX1_outline_13 : decode cX1_outline 13 = .ok (.bipush 24, 2) := by decide +kernel
theorem dX1_outline_15 : decode cX1_outline 15 = .ok (.if_icmp .ge 27, 3) := by decide +kernel
theorem dX1_outline_18 : decode cX1_outline 18 = .ok (.aload_n 0, 1) := by decide +kernel
theorem dX1_outline_19 : decode cX1_outline 19 = .ok (.iload_n 3, 1) := by decide +kernel
theorem dX1_outline_20 : decode cX1_outline 20 = .ok (.iload_n 2, 1) := by decide +kernel
theorem dX1_outline_21 : decode cX1_outline 21 = .ok (.invokevirtual 99, 3) := by decide +kernel
theorem dX1_outline_24 : decode cX1_outline 24 = .ok (.ifCond .le 12, 3) := by decide +kernel
theorem dX1_outline_27 : decode cX1_outline 27 = .ok (.iload_n 1, 1) := by decide +kernel
theorem dX1_outline_28 : decode cX1_outline 28 = .ok (.aload_n 0, 1) := by decide +kernel
theorem dX1_outline_29 : decode cX1_outline 29 = .ok (.iload_n 3, 1) := by decide +kernel
theorem dX1_outline_30 : decode cX1_outline 30 = .ok (.iload_n 2, 1) := by decide +kernel
theorem dX1_outline_31 : decode cX1_outline 31 = .ok (.invokevirtual 103, 3) := by decide +kernel
theorem dX1_outline_34 : decode cX1_outline 34 = .ok (.iadd, 1) := by decide +kernel
theorem dX1_outline_35 : decode cX1_outline 35 = .ok (.istore_n 1, 1) := by decide +kernel
theorem dX1_outline_36 : decode cX1_outline 36 = .ok (.iinc 3 1, 3) := by decide +kernel
theorem dX1_outline_39 : decode cX1_outline 39 = .ok (.goto (-27), 3) := by decide +kernel
theorem dX1_outline_42 : decode cX1_outline 42 = .ok (.iinc 2 1, 3) := by decide +kernel
theorem dX1_outline_45 : decode cX1_outline 45 = .ok (.goto (-41), 3) := by decide +kernel
theorem dX1_outline_48 : decode cX1_outline 48 = .ok (.iload_n 1, 1) := by decide +kernel
theorem dX1_outline_49 : decode cX1_outline 49 = .ok (.ireturn, 1) := by decide +kernel
theorem dX1_openSides_0 : decode cX1_openSides 0 = .ok (.aload_n 0, 1) := by decide +kernel
theorem dX1_openSides_1 : decode cX1_openSides 1 = .ok (.iload_n 1, 1) := by decide +kernel
theorem dX1_openSides_2 : decode cX1_openSides 2 = .ok (.iconst 1, 1) := by decide +kernel
theorem dX1_openSides_3 : decode cX1_openSides 3 = .ok (.isub, 1) := by decide +kernel
theorem dX1_openSides_4 : decode cX1_openSides 4 = .ok (.iload_n 2, 1) := by decide +kernel
theorem dX1_openSides_5 : decode cX1_openSides 5 = .ok (.invokevirtual 106, 3) := by decide +kernel
theorem dX1_openSides_8 : decode cX1_openSides 8 = .ok (.aload_n 0, 1) := by decide +kernel
theorem dX1_openSides_9 : decode cX1_openSides 9 = .ok (.iload_n 1, 1) := by decide +kernel
theorem dX1_openSides_10 : decode cX1_openSides 10 = .ok (.iload_n 2, 1) := by decide +kernel
theorem dX1_openSides_11 : decode cX1_openSides 11 = .ok (.iconst 1, 1) := by decide +kernel
theorem dX1_openSides_12 : decode cX1_openSides 12 = .ok (.isub, 1) := by decide +kernel
theorem dX1_openSides_13 : decode cX1_openSides 13 = .ok (.invokevirtual 106, 3) := by decide +kernel
theorem dX1_openSides_16 : decode cX1_openSides 16 = .ok (.iadd, 1) := by decide +kernel
theorem dX1_openSides_17 : decode cX1_openSides 17 = .ok (.aload_n 0, 1) := by decide +kernel
theorem dX1_openSides_18 : decode cX1_openSides 18 = .ok (.iload_n 1, 1) := by decide +kernel
theorem dX1_openSides_19 : decode cX1_openSides 19 = .ok (.iconst 1, 1) := by decide +kernel
theorem dX1_openSides_20 : decode cX1_openSides 20 = .ok (.iadd, 1) := by decide +kernel
theorem dX1_openSides_21 : decode cX1_openSides 21 = .ok (.iload_n 2, 1) := by decide +kernel
theorem dX1_openSides_22 : decode cX1_openSides 22 = .ok (.invokevirtual 106, 3) := by decide +kernel
theorem dX1_openSides_25 : decode cX1_openSides 25 = .ok (.iadd, 1) := by decide +kernel
theorem dX1_openSides_26 : decode cX1_openSides 26 = .ok (.aload_n 0, 1) := by decide +kernel
theorem dX1_openSides_27 : decode cX1_openSides 27 = .ok (.iload_n 1, 1) := by decide +kernel
theorem dX1_openSides_28 : decode cX1_openSides 28 = .ok (.iload_n 2, 1) := by decide +kernel
theorem dX1_openSides_29 : decode cX1_openSides 29 = .ok (.iconst 1, 1) := by decide +kernel
theorem dX1_openSides_30 : decode cX1_openSides 30 = .ok (.iadd, 1) := by decide +kernel
theorem dX1_openSides_31 : decode cX1_openSides 31 = .ok (.invokevirtual 106, 3) := by decide +kernel
theorem dX1_openSides_34 : decode cX1_openSides 34 = .ok (.iadd, 1) := by decide +kernel
theorem dX1_openSides_35 : decode cX1_openSides 35 = .ok (.ireturn, 1) := by decide +kernel
theorem dX1_openAt_0 : decode cX1_openAt 0 = .ok (.aload_n 0, 1) := by decide +kernel
theorem dX1_openAt_1 : decode cX1_openAt 1 = .ok (.iload_n 1, 1) := by decide +kernel
theorem dX1_openAt_2 : decode cX1_openAt 2 = .ok (.iload_n 2, 1) := by decide +kernel
theorem dX1_openAt_3 : decode cX1_openAt 3 = .ok (.invokevirtual 99, 3) := by decide +kernel
theorem dX1_openAt_6 : decode cX1_openAt 6 = .ok (.ifCond .ne 7, 3) := by decide +kernel
theorem dX1_openAt_9 : decode cX1_openAt 9 = .ok (.iconst 1, 1) := by decide +kernel
theorem dX1_openAt_10 : decode cX1_openAt 10 = .ok (.goto 4, 3) := by decide +kernel
theorem dX1_openAt_13 : decode cX1_openAt 13 = .ok (.iconst 0, 1) := by decide +kernel
theorem dX1_openAt_14 : decode cX1_openAt 14 = .ok (.ireturn, 1) := by decide +kernel
theorem dX1_parts_0 : decode cX1_parts 0 = .ok (.aload_n 0, 1) := by decide +kernel
theorem dX1_parts_1 : decode cX1_parts 1 = .ok (.getfield 22, 3) := by decide +kernel
theorem dX1_parts_4 : decode cX1_parts 4 = .ok (.iconst 0, 1) := by decide +kernel
theorem dX1_parts_5 : decode cX1_parts 5 = .ok (.invokestatic 63, 3) := by decide +kernel
theorem dX1_parts_8 : decode cX1_parts 8 = .ok (.iconst 0, 1) := by decide +kernel
theorem dX1_parts_9 : decode cX1_parts 9 = .ok (.istore_n 1, 1) := by decide +kernel
theorem dX1_parts_10 : decode cX1_parts 10 = .ok (.iconst 0, 1) := by decide +kernel
theorem dX1_parts_11 : decode cX1_parts 11 = .ok (.istore_n 2, 1) := by decide +kernel
theorem dX1_parts_12 : decode cX1_parts 12 = .ok (.iload_n 2, 1) := by decide +kernel
theorem dX1_parts_13 : decode cX1_parts 13 = .ok (.bipush 24, 2) := by decide +kernel
theorem dX1_parts_15 : decode cX1_parts 15 = .ok (.if_icmp .ge 48, 3) := by decide +kernel
theorem dX1_parts_18 : decode cX1_parts 18 = .ok (.iconst 0, 1) := by decide +kernel
theorem dX1_parts_19 : decode cX1_parts 19 = .ok (.istore_n 3, 1) := by decide +kernel
theorem dX1_parts_20 : decode cX1_parts 20 = .ok (.iload_n 3, 1) := by decide +kernel
theorem dX1_parts_21 : decode cX1_parts 21 = .ok (.bipush 24, 2) := by decide +kernel
theorem dX1_parts_23 : decode cX1_parts 23 = .ok (.if_icmp .ge 34, 3) := by decide +kernel
theorem dX1_parts_26 : decode cX1_parts 26 = .ok (.aload_n 0, 1) := by decide +kernel
theorem dX1_parts_27 : decode cX1_parts 27 = .ok (.iconst 0, 1) := by decide +kernel
theorem dX1_parts_28 : decode cX1_parts 28 = .ok (.putfield 28, 3) := by decide +kernel
theorem dX1_parts_31 : decode cX1_parts 31 = .ok (.aload_n 0, 1) := by decide +kernel
theorem dX1_parts_32 : decode cX1_parts 32 = .ok (.iload_n 3, 1) := by decide +kernel
theorem dX1_parts_33 : decode cX1_parts 33 = .ok (.iload_n 2, 1) := by decide +kernel
theorem dX1_parts_34 : decode cX1_parts 34 = .ok (.invokevirtual 109, 3) := by decide +kernel
theorem dX1_parts_37 : decode cX1_parts 37 = .ok (.aload_n 0, 1) := by decide +kernel
theorem dX1_parts_38 : decode cX1_parts 38 = .ok (.getfield 28, 3) := by decide +kernel
theorem dX1_parts_41 : decode cX1_parts 41 = .ok (.ifCond .le 10, 3) := by decide +kernel
theorem dX1_parts_44 : decode cX1_parts 44 = .ok (.iinc 1 1, 3) := by decide +kernel
theorem dX1_parts_47 : decode cX1_parts 47 = .ok (.aload_n 0, 1) := by decide +kernel
theorem dX1_parts_48 : decode cX1_parts 48 = .ok (.invokevirtual 113, 3) := by decide +kernel
theorem dX1_parts_51 : decode cX1_parts 51 = .ok (.iinc 3 1, 3) := by decide +kernel
theorem dX1_parts_54 : decode cX1_parts 54 = .ok (.goto (-34), 3) := by decide +kernel
theorem dX1_parts_57 : decode cX1_parts 57 = .ok (.iinc 2 1, 3) := by decide +kernel
theorem dX1_parts_60 : decode cX1_parts 60 = .ok (.goto (-48), 3) := by decide +kernel
theorem dX1_parts_63 : decode cX1_parts 63 = .ok (.iload_n 1, 1) := by decide +kernel
theorem dX1_parts_64 : decode cX1_parts 64 = .ok (.ireturn, 1) := by decide +kernel
theorem dX1_reachAllFromQueue_0 : decode cX1_reachAllFromQueue 0 = .ok (.iconst 0, 1) := by decide +kernel
theorem dX1_reachAllFromQueue_1 : decode cX1_reachAllFromQueue 1 = .ok (.istore_n 1, 1) := by decide +kernel
theorem dX1_reachAllFromQueue_2 : decode cX1_reachAllFromQueue 2 = .ok (.iload_n 1, 1) := by decide +kernel
theorem dX1_reachAllFromQueue_3 : decode cX1_reachAllFromQueue 3 = .ok (.aload_n 0, 1) := by decide +kernel
theorem dX1_reachAllFromQueue_4 : decode cX1_reachAllFromQueue 4 = .ok (.getfield 28, 3) := by decide +kernel
theorem dX1_reachAllFromQueue_7 : decode cX1_reachAllFromQueue 7 = .ok (.if_icmp .ge 68, 3) := by decide +kernel
theorem dX1_reachAllFromQueue_10 : decode cX1_reachAllFromQueue 10 = .ok (.iload_n 1, 1) := by decide +kernel
theorem dX1_reachAllFromQueue_11 : decode cX1_reachAllFromQueue 11 = .ok (.sipush 576, 3) := by decide +kernel
theorem dX1_reachAllFromQueue_14 : decode cX1_reachAllFromQueue 14 = .ok (.if_icmp .ge 61, 3) := by decide +kernel
theorem dX1_reachAllFromQueue_17 : decode cX1_reachAllFromQueue 17 = .ok (.aload_n 0, 1) := by decide +kernel
theorem dX1_reachAllFromQueue_18 : decode cX1_reachAllFromQueue 18 = .ok (.getfield 25, 3) := by decide +kernel
theorem dX1_reachAllFromQueue_21 : decode cX1_reachAllFromQueue 21 = .ok (.iload_n 1, 1) := by decide +kernel
theorem dX1_reachAllFromQueue_22 : decode cX1_reachAllFromQueue 22 = .ok (.iaload, 1) := by decide +kernel
theorem dX1_reachAllFromQueue_23 : decode cX1_reachAllFromQueue 23 = .ok (.bipush 24, 2) := by decide +kernel
theorem dX1_reachAllFromQueue_25 : decode cX1_reachAllFromQueue 25 = .ok (.irem, 1) := by decide +kernel
theorem dX1_reachAllFromQueue_26 : decode cX1_reachAllFromQueue 26 = .ok (.istore_n 2, 1) := by decide +kernel
theorem dX1_reachAllFromQueue_27 : decode cX1_reachAllFromQueue 27 = .ok (.aload_n 0, 1) := by decide +kernel
theorem dX1_reachAllFromQueue_28 : decode cX1_reachAllFromQueue 28 = .ok (.getfield 25, 3) := by decide +kernel
theorem dX1_reachAllFromQueue_31 : decode cX1_reachAllFromQueue 31 = .ok (.iload_n 1, 1) := by decide +kernel
theorem dX1_reachAllFromQueue_32 : decode cX1_reachAllFromQueue 32 = .ok (.iaload, 1) := by decide +kernel
theorem dX1_reachAllFromQueue_33 : decode cX1_reachAllFromQueue 33 = .ok (.bipush 24, 2) := by decide +kernel
theorem dX1_reachAllFromQueue_35 : decode cX1_reachAllFromQueue 35 = .ok (.idiv, 1) := by decide +kernel
theorem dX1_reachAllFromQueue_36 : decode cX1_reachAllFromQueue 36 = .ok (.istore_n 3, 1) := by decide +kernel
theorem dX1_reachAllFromQueue_37 : decode cX1_reachAllFromQueue 37 = .ok (.aload_n 0, 1) := by decide +kernel
theorem dX1_reachAllFromQueue_38 : decode cX1_reachAllFromQueue 38 = .ok (.iload_n 2, 1) := by decide +kernel
theorem dX1_reachAllFromQueue_39 : decode cX1_reachAllFromQueue 39 = .ok (.iconst 1, 1) := by decide +kernel
theorem dX1_reachAllFromQueue_40 : decode cX1_reachAllFromQueue 40 = .ok (.isub, 1) := by decide +kernel
theorem dX1_reachAllFromQueue_41 : decode cX1_reachAllFromQueue 41 = .ok (.iload_n 3, 1) := by decide +kernel
theorem dX1_reachAllFromQueue_42 : decode cX1_reachAllFromQueue 42 = .ok (.invokevirtual 109, 3) := by decide +kernel
theorem dX1_reachAllFromQueue_45 : decode cX1_reachAllFromQueue 45 = .ok (.aload_n 0, 1) := by decide +kernel
theorem dX1_reachAllFromQueue_46 : decode cX1_reachAllFromQueue 46 = .ok (.iload_n 2, 1) := by decide +kernel
theorem dX1_reachAllFromQueue_47 : decode cX1_reachAllFromQueue 47 = .ok (.iload_n 3, 1) := by decide +kernel
theorem dX1_reachAllFromQueue_48 : decode cX1_reachAllFromQueue 48 = .ok (.iconst 1, 1) := by decide +kernel
theorem dX1_reachAllFromQueue_49 : decode cX1_reachAllFromQueue 49 = .ok (.isub, 1) := by decide +kernel
theorem dX1_reachAllFromQueue_50 : decode cX1_reachAllFromQueue 50 = .ok (.invokevirtual 109, 3) := by decide +kernel
theorem dX1_reachAllFromQueue_53 : decode cX1_reachAllFromQueue 53 = .ok (.aload_n 0, 1) := by decide +kernel
theorem dX1_reachAllFromQueue_54 : decode cX1_reachAllFromQueue 54 = .ok (.iload_n 2, 1) := by decide +kernel
theorem dX1_reachAllFromQueue_55 : decode cX1_reachAllFromQueue 55 = .ok (.iconst 1, 1) := by decide +kernel
theorem dX1_reachAllFromQueue_56 : decode cX1_reachAllFromQueue 56 = .ok (.iadd, 1) := by decide +kernel
theorem dX1_reachAllFromQueue_57 : decode cX1_reachAllFromQueue 57 = .ok (.iload_n 3, 1) := by decide +kernel
theorem dX1_reachAllFromQueue_58 : decode cX1_reachAllFromQueue 58 = .ok (.invokevirtual 109, 3) := by decide +kernel
theorem dX1_reachAllFromQueue_61 : decode cX1_reachAllFromQueue 61 = .ok (.aload_n 0, 1) := by decide +kernel
theorem dX1_reachAllFromQueue_62 : decode cX1_reachAllFromQueue 62 = .ok (.iload_n 2, 1) := by decide +kernel
theorem dX1_reachAllFromQueue_63 : decode cX1_reachAllFromQueue 63 = .ok (.iload_n 3, 1) := by decide +kernel
theorem dX1_reachAllFromQueue_64 : decode cX1_reachAllFromQueue 64 = .ok (.iconst 1, 1) := by decide +kernel
theorem dX1_reachAllFromQueue_65 : decode cX1_reachAllFromQueue 65 = .ok (.iadd, 1) := by decide +kernel
theorem dX1_reachAllFromQueue_66 : decode cX1_reachAllFromQueue 66 = .ok (.invokevirtual 109, 3) := by decide +kernel
theorem dX1_reachAllFromQueue_69 : decode cX1_reachAllFromQueue 69 = .ok (.iinc 1 1, 3) := by decide +kernel
theorem dX1_reachAllFromQueue_72 : decode cX1_reachAllFromQueue 72 = .ok (.goto (-70), 3) := by decide +kernel
theorem dX1_reachAllFromQueue_75 : decode cX1_reachAllFromQueue 75 = .ok (.return_, 1) := by decide +kernel
theorem dX1_reach_0 : decode cX1_reach 0 = .ok (.aload_n 0, 1) := by decide +kernel
theorem dX1_reach_1 : decode cX1_reach 1 = .ok (.iload_n 1, 1) := by decide +kernel
theorem dX1_reach_2 : decode cX1_reach 2 = .ok (.iload_n 2, 1) := by decide +kernel
theorem dX1_reach_3 : decode cX1_reach 3 = .ok (.invokevirtual 99, 3) := by decide +kernel
theorem dX1_reach_6 : decode cX1_reach 6 = .ok (.ifCond .eq 11, 3) := by decide +kernel
theorem dX1_reach_9 : decode cX1_reach 9 = .ok (.iload_n 1, 1) := by decide +kernel
theorem dX1_reach_10 : decode cX1_reach 10 = .ok (.iload_n 2, 1) := by decide +kernel
theorem dX1_reach_11 : decode cX1_reach 11 = .ok (.invokestatic 85, 3) := by decide +kernel
theorem dX1_reach_14 : decode cX1_reach 14 = .ok (.ifCond .ne 4, 3) := by decide +kernel
theorem dX1_reach_17 : decode cX1_reach 17 = .ok (.return_, 1) := by decide +kernel
theorem dX1_reach_18 : decode cX1_reach 18 = .ok (.iload_n 2, 1) := by decide +kernel
theorem dX1_reach_19 : decode cX1_reach 19 = .ok (.bipush 24, 2) := by decide +kernel
theorem dX1_reach_21 : decode cX1_reach 21 = .ok (.imul, 1) := by decide +kernel
theorem dX1_reach_22 : decode cX1_reach 22 = .ok (.iload_n 1, 1) := by decide +kernel
theorem dX1_reach_23 : decode cX1_reach 23 = .ok (.iadd, 1) := by decide +kernel
theorem dX1_reach_24 : decode cX1_reach 24 = .ok (.istore_n 3, 1) := by decide +kernel
theorem dX1_reach_25 : decode cX1_reach 25 = .ok (.aload_n 0, 1) := by decide +kernel
theorem dX1_reach_26 : decode cX1_reach 26 = .ok (.getfield 22, 3) := by decide +kernel
theorem dX1_reach_29 : decode cX1_reach 29 = .ok (.iload_n 3, 1) := by decide +kernel
theorem dX1_reach_30 : decode cX1_reach 30 = .ok (.iaload, 1) := by decide +kernel
theorem dX1_reach_31 : decode cX1_reach 31 = .ok (.ifCond .ne 47, 3) := by decide +kernel
theorem dX1_reach_34 : decode cX1_reach 34 = .ok (.aload_n 0, 1) := by decide +kernel
theorem dX1_reach_35 : decode cX1_reach 35 = .ok (.getfield 28, 3) := by decide +kernel
theorem dX1_reach_38 : decode cX1_reach 38 = .ok (.ifCond .lt 40, 3) := by decide +kernel
theorem dX1_reach_41 : decode cX1_reach 41 = .ok (.aload_n 0, 1) := by decide +kernel
theorem dX1_reach_42 : decode cX1_reach 42 = .ok (.getfield 28, 3) := by decide +kernel
theorem dX1_reach_45 : decode cX1_reach 45 = .ok (.sipush 576, 3) := by decide +kernel
theorem dX1_reach_48 : decode cX1_reach 48 = .ok (.if_icmp .ge 30, 3) := by decide +kernel
theorem dX1_reach_51 : decode cX1_reach 51 = .ok (.aload_n 0, 1) := by decide +kernel
theorem dX1_reach_52 : decode cX1_reach 52 = .ok (.getfield 22, 3) := by decide +kernel
theorem dX1_reach_55 : decode cX1_reach 55 = .ok (.iload_n 3, 1) := by decide +kernel
theorem dX1_reach_56 : decode cX1_reach 56 = .ok (.iconst 1, 1) := by decide +kernel
theorem dX1_reach_57 : decode cX1_reach 57 = .ok (.iastore, 1) := by decide +kernel
theorem dX1_reach_58 : decode cX1_reach 58 = .ok (.aload_n 0, 1) := by decide +kernel
theorem dX1_reach_59 : decode cX1_reach 59 = .ok (.getfield 25, 3) := by decide +kernel
theorem dX1_reach_62 : decode cX1_reach 62 = .ok (.aload_n 0, 1) := by decide +kernel
theorem dX1_reach_63 : decode cX1_reach 63 = .ok (.getfield 28, 3) := by decide +kernel
theorem dX1_reach_66 : decode cX1_reach 66 = .ok (.iload_n 3, 1) := by decide +kernel
theorem dX1_reach_67 : decode cX1_reach 67 = .ok (.iastore, 1) := by decide +kernel
theorem dX1_reach_68 : decode cX1_reach 68 = .ok (.aload_n 0, 1) := by decide +kernel
theorem dX1_reach_69 : decode cX1_reach 69 = .ok (.dup, 1) := by decide +kernel
theorem dX1_reach_70 : decode cX1_reach 70 = .ok (.getfield 28, 3) := by decide +kernel
theorem dX1_reach_73 : decode cX1_reach 73 = .ok (.iconst 1, 1) := by decide +kernel
theorem dX1_reach_74 : decode cX1_reach 74 = .ok (.iadd, 1) := by decide +kernel
theorem dX1_reach_75 : decode cX1_reach 75 = .ok (.putfield 28, 3) := by decide +kernel
theorem dX1_reach_78 : decode cX1_reach 78 = .ok (.return_, 1) := by decide +kernel
theorem dX1_coveredInColumn_0 : decode cX1_coveredInColumn 0 = .ok (.iconst 0, 1) := by decide +kernel
theorem dX1_coveredInColumn_1 : decode cX1_coveredInColumn 1 = .ok (.istore_n 2, 1) := by decide +kernel
theorem dX1_coveredInColumn_2 : decode cX1_coveredInColumn 2 = .ok (.iconst 0, 1) := by decide +kernel
theorem dX1_coveredInColumn_3 : decode cX1_coveredInColumn 3 = .ok (.istore_n 3, 1) := by decide +kernel
theorem dX1_coveredInColumn_4 : decode cX1_coveredInColumn 4 = .ok (.iload_n 3, 1) := by decide +kernel
theorem dX1_coveredInColumn_5 : decode cX1_coveredInColumn 5 = .ok (.bipush 24, 2) := by decide +kernel
theorem dX1_coveredInColumn_7 : decode cX1_coveredInColumn 7 = .ok (.if_icmp .ge 21, 3) := by decide +kernel
theorem dX1_coveredInColumn_10 : decode cX1_coveredInColumn 10 = .ok (.aload_n 0, 1) := by decide +kernel
theorem dX1_coveredInColumn_11 : decode cX1_coveredInColumn 11 = .ok (.iload_n 1, 1) := by decide +kernel
theorem dX1_coveredInColumn_12 : decode cX1_coveredInColumn 12 = .ok (.iload_n 3, 1) := by decide +kernel
theorem dX1_coveredInColumn_13 : decode cX1_coveredInColumn 13 = .ok (.invokevirtual 99, 3) := by decide +kernel
theorem dX1_coveredInColumn_16 : decode cX1_coveredInColumn 16 = .ok (.ifCond .le 6, 3) := by decide +kernel
theorem dX1_coveredInColumn_19 : decode cX1_coveredInColumn 19 = .ok (.iinc 2 1, 3) := by decide +kernel
theorem dX1_coveredInColumn_22 : decode cX1_coveredInColumn 22 = .ok (.iinc 3 1, 3) := by decide +kernel
theorem dX1_coveredInColumn_25 : decode cX1_coveredInColumn 25 = .ok (.goto (-21), 3) := by decide +kernel
theorem dX1_coveredInColumn_28 : decode cX1_coveredInColumn 28 = .ok (.iload_n 2, 1) := by decide +kernel
theorem dX1_coveredInColumn_29 : decode cX1_coveredInColumn 29 = .ok (.ireturn, 1) := by decide +kernel
theorem dX1_runsInColumn_0 : decode cX1_runsInColumn 0 = .ok (.iconst 0, 1) := by decide +kernel
theorem dX1_runsInColumn_1 : decode cX1_runsInColumn 1 = .ok (.istore_n 2, 1) := by decide +kernel
theorem dX1_runsInColumn_2 : decode cX1_runsInColumn 2 = .ok (.iconst 0, 1) := by decide +kernel
theorem dX1_runsInColumn_3 : decode cX1_runsInColumn 3 = .ok (.istore_n 3, 1) := by decide +kernel
theorem dX1_runsInColumn_4 : decode cX1_runsInColumn 4 = .ok (.iload_n 3, 1) := by decide +kernel
theorem dX1_runsInColumn_5 : decode cX1_runsInColumn 5 = .ok (.bipush 24, 2) := by decide +kernel
theorem dX1_runsInColumn_7 : decode cX1_runsInColumn 7 = .ok (.if_icmp .ge 32, 3) := by decide +kernel
theorem dX1_runsInColumn_10 : decode cX1_runsInColumn 10 = .ok (.aload_n 0, 1) := by decide +kernel
theorem dX1_runsInColumn_11 : decode cX1_runsInColumn 11 = .ok (.iload_n 1, 1) := by decide +kernel
theorem dX1_runsInColumn_12 : decode cX1_runsInColumn 12 = .ok (.iload_n 3, 1) := by decide +kernel
theorem dX1_runsInColumn_13 : decode cX1_runsInColumn 13 = .ok (.invokevirtual 99, 3) := by decide +kernel
theorem dX1_runsInColumn_16 : decode cX1_runsInColumn 16 = .ok (.ifCond .le 17, 3) := by decide +kernel
theorem dX1_runsInColumn_19 : decode cX1_runsInColumn 19 = .ok (.aload_n 0, 1) := by decide +kernel
theorem dX1_runsInColumn_20 : decode cX1_runsInColumn 20 = .ok (.iload_n 1, 1) := by decide +kernel
theorem dX1_runsInColumn_21 : decode cX1_runsInColumn 21 = .ok (.iload_n 3, 1) := by decide +kernel
theorem dX1_runsInColumn_22 : decode cX1_runsInColumn 22 = .ok (.iconst 1, 1) := by decide +kernel
theorem dX1_runsInColumn_23 : decode cX1_runsInColumn 23 = .ok (.isub, 1) := by decide +kernel
theorem dX1_runsInColumn_24 : decode cX1_runsInColumn 24 = .ok (.invokevirtual 99, 3) := by decide +kernel
theorem dX1_runsInColumn_27 : decode cX1_runsInColumn 27 = .ok (.ifCond .ne 6, 3) := by decide +kernel
theorem dX1_runsInColumn_30 : decode cX1_runsInColumn 30 = .ok (.iinc 2 1, 3) := by decide +kernel
theorem dX1_runsInColumn_33 : decode cX1_runsInColumn 33 = .ok (.iinc 3 1, 3) := by decide +kernel
theorem dX1_runsInColumn_36 : decode cX1_runsInColumn 36 = .ok (.goto (-32), 3) := by decide +kernel
theorem dX1_runsInColumn_39 : decode cX1_runsInColumn 39 = .ok (.iload_n 2, 1) := by decide +kernel
theorem dX1_runsInColumn_40 : decode cX1_runsInColumn 40 = .ok (.ireturn, 1) := by decide +kernel
theorem dX1_longestRunInColumn_0 : decode cX1_longestRunInColumn 0 = .ok (.iconst 0, 1) := by decide +kernel
theorem dX1_longestRunInColumn_1 : decode cX1_longestRunInColumn 1 = .ok (.istore_n 2, 1) := by decide +kernel
theorem dX1_longestRunInColumn_2 : decode cX1_longestRunInColumn 2 = .ok (.iconst 0, 1) := by decide +kernel
theorem dX1_longestRunInColumn_3 : decode cX1_longestRunInColumn 3 = .ok (.istore_n 3, 1) := by decide +kernel
theorem dX1_longestRunInColumn_4 : decode cX1_longestRunInColumn 4 = .ok (.iconst 0, 1) := by decide +kernel
theorem dX1_longestRunInColumn_5 : decode cX1_longestRunInColumn 5 = .ok (.istore 4, 2) := by decide +kernel
theorem dX1_longestRunInColumn_7 : decode cX1_longestRunInColumn 7 = .ok (.iload 4, 2) := by decide +kernel
theorem dX1_longestRunInColumn_9 : decode cX1_longestRunInColumn 9 = .ok (.bipush 24, 2) := by decide +kernel
theorem dX1_longestRunInColumn_11 : decode cX1_longestRunInColumn 11 = .ok (.if_icmp .ge 33, 3) := by decide +kernel
theorem dX1_longestRunInColumn_14 : decode cX1_longestRunInColumn 14 = .ok (.aload_n 0, 1) := by decide +kernel
theorem dX1_longestRunInColumn_15 : decode cX1_longestRunInColumn 15 = .ok (.iload_n 1, 1) := by decide +kernel
theorem dX1_longestRunInColumn_16 : decode cX1_longestRunInColumn 16 = .ok (.iload 4, 2) := by decide +kernel
theorem dX1_longestRunInColumn_18 : decode cX1_longestRunInColumn 18 = .ok (.invokevirtual 99, 3) := by decide +kernel
theorem dX1_longestRunInColumn_21 : decode cX1_longestRunInColumn 21 = .ok (.ifCond .le 9, 3) := by decide +kernel
theorem dX1_longestRunInColumn_24 : decode cX1_longestRunInColumn 24 = .ok (.iload_n 3, 1) := by decide +kernel
theorem dX1_longestRunInColumn_25 : decode cX1_longestRunInColumn 25 = .ok (.iconst 1, 1) := by decide +kernel
theorem dX1_longestRunInColumn_26 : decode cX1_longestRunInColumn 26 = .ok (.iadd, 1) := by decide +kernel
theorem dX1_longestRunInColumn_27 : decode cX1_longestRunInColumn 27 = .ok (.goto 4, 3) := by decide +kernel
theorem dX1_longestRunInColumn_30 : decode cX1_longestRunInColumn 30 = .ok (.iconst 0, 1) := by decide +kernel
theorem dX1_longestRunInColumn_31 : decode cX1_longestRunInColumn 31 = .ok (.istore_n 3, 1) := by decide +kernel
theorem dX1_longestRunInColumn_32 : decode cX1_longestRunInColumn 32 = .ok (.iload_n 2, 1) := by decide +kernel
theorem dX1_longestRunInColumn_33 : decode cX1_longestRunInColumn 33 = .ok (.iload_n 3, 1) := by decide +kernel
theorem dX1_longestRunInColumn_34 : decode cX1_longestRunInColumn 34 = .ok (.invokestatic 116, 3) := by decide +kernel
theorem dX1_longestRunInColumn_37 : decode cX1_longestRunInColumn 37 = .ok (.istore_n 2, 1) := by decide +kernel
theorem dX1_longestRunInColumn_38 : decode cX1_longestRunInColumn 38 = .ok (.iinc 4 1, 3) := by decide +kernel
theorem dX1_longestRunInColumn_41 : decode cX1_longestRunInColumn 41 = .ok (.goto (-34), 3) := by decide +kernel
theorem dX1_longestRunInColumn_44 : decode cX1_longestRunInColumn 44 = .ok (.iload_n 2, 1) := by decide +kernel
theorem dX1_longestRunInColumn_45 : decode cX1_longestRunInColumn 45 = .ok (.ireturn, 1) := by decide +kernel
theorem dX1_mostLayersInColumn_0 : decode cX1_mostLayersInColumn 0 = .ok (.iconst 0, 1) := by decide +kernel
theorem dX1_mostLayersInColumn_1 : decode cX1_mostLayersInColumn 1 = .ok (.istore_n 2, 1) := by decide +kernel
theorem dX1_mostLayersInColumn_2 : decode cX1_mostLayersInColumn 2 = .ok (.iconst 0, 1) := by decide +kernel
theorem dX1_mostLayersInColumn_3 : decode cX1_mostLayersInColumn 3 = .ok (.istore_n 3, 1) := by decide +kernel
theorem dX1_mostLayersInColumn_4 : decode cX1_mostLayersInColumn 4 = .ok (.iload_n 3, 1) := by decide +kernel
theorem dX1_mostLayersInColumn_5 : decode cX1_mostLayersInColumn 5 = .ok (.bipush 24, 2) := by decide +kernel
theorem dX1_mostLayersInColumn_7 : decode cX1_mostLayersInColumn 7 = .ok (.if_icmp .ge 20, 3) := by decide +kernel
theorem dX1_mostLayersInColumn_10 : decode cX1_mostLayersInColumn 10 = .ok (.iload_n 2, 1) := by decide +kernel
theorem dX1_mostLayersInColumn_11 : decode cX1_mostLayersInColumn 11 = .ok (.aload_n 0, 1) := by decide +kernel
theorem dX1_mostLayersInColumn_12 : decode cX1_mostLayersInColumn 12 = .ok (.iload_n 1, 1) := by decide +kernel
theorem dX1_mostLayersInColumn_13 : decode cX1_mostLayersInColumn 13 = .ok (.iload_n 3, 1) := by decide +kernel
theorem dX1_mostLayersInColumn_14 : decode cX1_mostLayersInColumn 14 = .ok (.invokevirtual 99, 3) := by decide +kernel
theorem dX1_mostLayersInColumn_17 : decode cX1_mostLayersInColumn 17 = .ok (.invokestatic 116, 3) := by decide +kernel
theorem dX1_mostLayersInColumn_20 : decode cX1_mostLayersInColumn 20 = .ok (.istore_n 2, 1) := by decide +kernel
theorem dX1_mostLayersInColumn_21 : decode cX1_mostLayersInColumn 21 = .ok (.iinc 3 1, 3) := by decide +kernel
theorem dX1_mostLayersInColumn_24 : decode cX1_mostLayersInColumn 24 = .ok (.goto (-20), 3) := by decide +kernel
theorem dX1_mostLayersInColumn_27 : decode cX1_mostLayersInColumn 27 = .ok (.iload_n 2, 1) := by decide +kernel
theorem dX1_mostLayersInColumn_28 : decode cX1_mostLayersInColumn 28 = .ok (.ireturn, 1) := by decide +kernel
theorem dX2_init_0 : decode cX2_init 0 = .ok (.aload_n 0, 1) := by decide +kernel
theorem dX2_init_1 : decode cX2_init 1 = .ok (.invokespecial 3, 3) := by decide +kernel
theorem dX2_init_4 : decode cX2_init 4 = .ok (.aload_n 0, 1) := by decide +kernel
theorem dX2_init_5 : decode cX2_init 5 = .ok (.aload_n 1, 1) := by decide +kernel
theorem dX2_init_6 : decode cX2_init 6 = .ok (.putfield 9, 3) := by decide +kernel
theorem dX2_init_9 : decode cX2_init 9 = .ok (.aload_n 0, 1) := by decide +kernel
theorem dX2_init_10 : decode cX2_init 10 = .ok (.sipush 576, 3) := by decide +kernel
theorem dX2_init_13 : decode cX2_init 13 = .ok (.newarray .int, 2) := by decide +kernel
theorem dX2_init_15 : decode cX2_init 15 = .ok (.putfield 15, 3) := by decide +kernel
theorem dX2_init_18 : decode cX2_init 18 = .ok (.aload_n 0, 1) := by decide +kernel
theorem dX2_init_19 : decode cX2_init 19 = .ok (.bipush 10, 2) := by decide +kernel
theorem dX2_init_21 : decode cX2_init 21 = .ok (.newarray .int, 2) := by decide +kernel
theorem dX2_init_23 : decode cX2_init 23 = .ok (.putfield 19, 3) := by decide +kernel
theorem dX2_init_26 : decode cX2_init 26 = .ok (.aload_n 0, 1) := by decide +kernel
theorem dX2_init_27 : decode cX2_init 27 = .ok (.iconst 0, 1) := by decide +kernel
theorem dX2_init_28 : decode cX2_init 28 = .ok (.putfield 22, 3) := by decide +kernel
theorem dX2_init_31 : decode cX2_init 31 = .ok (.aload_n 0, 1) := by decide +kernel
theorem dX2_init_32 : decode cX2_init 32 = .ok (.iconst 0, 1) := by decide +kernel
theorem dX2_init_33 : decode cX2_init 33 = .ok (.putfield 26, 3) := by decide +kernel
theorem dX2_init_36 : decode cX2_init 36 = .ok (.return_, 1) := by decide +kernel
theorem dX2_pour_0 : decode cX2_pour 0 = .ok (.aload_n 0, 1) := by decide +kernel
theorem dX2_pour_1 : decode cX2_pour 1 = .ok (.invokevirtual 29, 3) := by decide +kernel
theorem dX2_pour_4 : decode cX2_pour 4 = .ok (.iconst 0, 1) := by decide +kernel
theorem dX2_pour_5 : decode cX2_pour 5 = .ok (.istore_n 2, 1) := by decide +kernel
theorem dX2_pour_6 : decode cX2_pour 6 = .ok (.iload_n 2, 1) := by decide +kernel
theorem dX2_pour_7 : decode cX2_pour 7 = .ok (.bipush 24, 2) := by decide +kernel
theorem dX2_pour_9 : decode cX2_pour 9 = .ok (.if_icmp .ge 32, 3) := by decide +kernel
theorem dX2_pour_12 : decode cX2_pour 12 = .ok (.iconst 0, 1) := by decide +kernel
theorem dX2_pour_13 : decode cX2_pour 13 = .ok (.istore_n 3, 1) := by decide +kernel
theorem dX2_pour_14 : decode cX2_pour 14 = .ok (.iload_n 3, 1) := by decide +kernel
theorem dX2_pour_15 : decode cX2_pour 15 = .ok (.bipush 24, 2) := by decide +kernel
theorem dX2_pour_17 : decode cX2_pour 17 = .ok (.if_icmp .ge 18, 3) := by decide +kernel
theorem dX2_pour_20 : decode cX2_pour 20 = .ok (.aload_n 0, 1) := by decide +kernel
theorem dX2_pour_21 : decode cX2_pour 21 = .ok (.iload_n 1, 1) := by decide +kernel
theorem dX2_pour_22 : decode cX2_pour 22 = .ok (.iload_n 3, 1) := by decide +kernel
theorem dX2_pour_23 : decode cX2_pour 23 = .ok (.iload_n 2, 1) := by decide +kernel
theorem dX2_pour_24 : decode cX2_pour 24 = .ok (.bipush 10, 2) := by decide +kernel
theorem dX2_pour_26 : decode cX2_pour 26 = .ok (.invokevirtual 32, 3) := by decide +kernel
theorem dX2_pour_29 : decode cX2_pour 29 = .ok (.iinc 3 1, 3) := by decide +kernel
theorem dX2_pour_32 : decode cX2_pour 32 = .ok (.goto (-18), 3) := by decide +kernel
theorem dX2_pour_35 : decode cX2_pour 35 = .ok (.iinc 2 1, 3) := by decide +kernel
theorem dX2_pour_38 : decode cX2_pour 38 = .ok (.goto (-32), 3) := by decide +kernel
theorem dX2_pour_41 : decode cX2_pour 41 = .ok (.bipush 9, 2) := by decide +kernel
theorem dX2_pour_43 : decode cX2_pour 43 = .ok (.istore_n 2, 1) := by decide +kernel
theorem dX2_pour_44 : decode cX2_pour 44 = .ok (.iload_n 2, 1) := by decide +kernel
theorem dX2_pour_45 : decode cX2_pour 45 = .ok (.iconst 1, 1) := by decide +kernel
theorem dX2_pour_46 : decode cX2_pour 46 = .ok (.if_icmp .lt 14, 3) := by decide +kernel
theorem dX2_pour_49 : decode cX2_pour 49 = .ok (.aload_n 0, 1) := by decide +kernel
theorem dX2_pour_50 : decode cX2_pour 50 = .ok (.iload_n 2, 1) := by decide +kernel
theorem dX2_pour_51 : decode cX2_pour 51 = .ok (.invokevirtual 36, 3) := by decide +kernel
theorem dX2_pour_54 : decode cX2_pour 54 = .ok (.iinc 2 (-1), 3) := by decide +kernel
theorem dX2_pour_57 : decode cX2_pour 57 = .ok (.goto (-13), 3) := by decide +kernel
theorem dX2_pour_60 : decode cX2_pour 60 = .ok (.return_, 1) := by decide +kernel
theorem dX2_fallenAt_0 : decode cX2_fallenAt 0 = .ok (.iload_n 1, 1) := by decide +kernel
theorem dX2_fallenAt_1 : decode cX2_fallenAt 1 = .ok (.iload_n 2, 1) := by decide +kernel
theorem dX2_fallenAt_2 : decode cX2_fallenAt 2 = .ok (.invokestatic 40, 3) := by decide +kernel
theorem dX2_fallenAt_5 : decode cX2_fallenAt 5 = .ok (.ifCond .eq 17, 3) := by decide +kernel
theorem dX2_fallenAt_8 : decode cX2_fallenAt 8 = .ok (.aload_n 0, 1) := by decide +kernel
theorem dX2_fallenAt_9 : decode cX2_fallenAt 9 = .ok (.getfield 15, 3) := by decide +kernel
theorem dX2_fallenAt_12 : decode cX2_fallenAt 12 = .ok (.iload_n 2, 1) := by decide +kernel
theorem dX2_fallenAt_13 : decode cX2_fallenAt 13 = .ok (.bipush 24, 2) := by decide +kernel
theorem dX2_fallenAt_15 : decode cX2_fallenAt 15 = .ok (.imul, 1) := by decide +kernel
theorem dX2_fallenAt_16 : decode cX2_fallenAt 16 = .ok (.iload_n 1, 1) := by decide +kernel
theorem dX2_fallenAt_17 : decode cX2_fallenAt 17 = .ok (.iadd, 1) := by decide +kernel
theorem dX2_fallenAt_18 : decode cX2_fallenAt 18 = .ok (.iaload, 1) := by decide +kernel
theorem dX2_fallenAt_19 : decode cX2_fallenAt 19 = .ok (.goto 4, 3) := by decide +kernel
theorem dX2_fallenAt_22 : decode cX2_fallenAt 22 = .ok (.iconst 0, 1) := by decide +kernel
theorem dX2_fallenAt_23 : decode cX2_fallenAt 23 = .ok (.ireturn, 1) := by decide +kernel
theorem dX2_caughtBy_0 : decode cX2_caughtBy 0 = .ok (.iload_n 1, 1) := by decide +kernel
theorem dX2_caughtBy_1 : decode cX2_caughtBy 1 = .ok (.ifCond .lt 21, 3) := by decide +kernel
theorem dX2_caughtBy_4 : decode cX2_caughtBy 4 = .ok (.iload_n 1, 1) := by decide +kernel
theorem dX2_caughtBy_5 : decode cX2_caughtBy 5 = .ok (.aload_n 0, 1) := by decide +kernel
theorem dX2_caughtBy_6 : decode cX2_caughtBy 6 = .ok (.getfield 19, 3) := by decide +kernel
theorem dX2_caughtBy_9 : decode cX2_caughtBy 9 = .ok (.arraylength, 1) := by decide +kernel
theorem dX2_caughtBy_10 : decode cX2_caughtBy 10 = .ok (.if_icmp .ge 12, 3) := by decide +kernel
theorem dX2_caughtBy_13 : decode cX2_caughtBy 13 = .ok (.aload_n 0, 1) := by decide +kernel
theorem dX2_caughtBy_14 : decode cX2_caughtBy 14 = .ok (.getfield 19, 3) := by decide +kernel
theorem dX2_caughtBy_17 : decode cX2_caughtBy 17 = .ok (.iload_n 1, 1) := by decide +kernel
theorem dX2_caughtBy_18 : decode cX2_caughtBy 18 = .ok (.iaload, 1) := by decide +kernel
theorem dX2_caughtBy_19 : decode cX2_caughtBy 19 = .ok (.goto 4, 3) := by decide +kernel
theorem dX2_caughtBy_22 : decode cX2_caughtBy 22 = .ok (.iconst 0, 1) := by decide +kernel
theorem dX2_caughtBy_23 : decode cX2_caughtBy 23 = .ok (.ireturn, 1) := by decide +kernel
theorem dX2_dry_0 : decode cX2_dry 0 = .ok (.aload_n 0, 1) := by decide +kernel
theorem dX2_dry_1 : decode cX2_dry 1 = .ok (.getfield 15, 3) := by decide +kernel
theorem dX2_dry_4 : decode cX2_dry 4 = .ok (.iconst 0, 1) := by decide +kernel
theorem dX2_dry_5 : decode cX2_dry 5 = .ok (.invokestatic 44, 3) := by decide +kernel
theorem dX2_dry_8 : decode cX2_dry 8 = .ok (.aload_n 0, 1) := by decide +kernel
theorem dX2_dry_9 : decode cX2_dry 9 = .ok (.getfield 19, 3) := by decide +kernel
theorem dX2_dry_12 : decode cX2_dry 12 = .ok (.iconst 0, 1) := by decide +kernel
theorem dX2_dry_13 : decode cX2_dry 13 = .ok (.invokestatic 44, 3) := by decide +kernel
theorem dX2_dry_16 : decode cX2_dry 16 = .ok (.aload_n 0, 1) := by decide +kernel
theorem dX2_dry_17 : decode cX2_dry 17 = .ok (.iconst 0, 1) := by decide +kernel
theorem dX2_dry_18 : decode cX2_dry 18 = .ok (.putfield 22, 3) := by decide +kernel
theorem dX2_dry_21 : decode cX2_dry 21 = .ok (.aload_n 0, 1) := by decide +kernel
theorem dX2_dry_22 : decode cX2_dry 22 = .ok (.iconst 0, 1) := by decide +kernel
theorem dX2_dry_23 : decode cX2_dry 23 = .ok (.putfield 26, 3) := by decide +kernel
theorem dX2_dry_26 : decode cX2_dry 26 = .ok (.return_, 1) := by decide +kernel
theorem dX2_dripFromLevel_0 : decode cX2_dripFromLevel 0 = .ok (.iconst 0, 1) := by decide +kernel
theorem dX2_dripFromLevel_1 : decode cX2_dripFromLevel 1 = .ok (.istore_n 2, 1) := by decide +kernel
theorem dX2_dripFromLevel_2 : decode cX2_dripFromLevel 2 = .ok (.iload_n 2, 1) := by decide +kernel
theorem dX2_dripFromLevel_3 : decode cX2_dripFromLevel 3 = .ok (.aload_n 0, 1) := by decide +kernel
theorem dX2_dripFromLevel_4 : decode cX2_dripFromLevel 4 = .ok (.getfield 9, 3) := by decide +kernel
theorem dX2_dripFromLevel_7 : decode cX2_dripFromLevel 7 = .ok (.invokevirtual 50, 3) := by decide +kernel
theorem dX2_dripFromLevel_10 : decode cX2_dripFromLevel 10 = .ok (.if_icmp .ge 43, 3) := by decide +kernel
theorem dX2_dripFromLevel_13 : decode cX2_dripFromLevel 13 = .ok (.aload_n 0, 1) := by decide +kernel
theorem dX2_dripFromLevel_14 : decode cX2_dripFromLevel 14 = .ok (.getfield 9, 3) := by decide +kernel
theorem dX2_dripFromLevel_17 : decode cX2_dripFromLevel 17 = .ok (.iload_n 2, 1) := by decide +kernel
theorem dX2_dripFromLevel_18 : decode cX2_dripFromLevel 18 = .ok (.invokevirtual 56, 3) := by decide +kernel
theorem dX2_dripFromLevel_21 : decode cX2_dripFromLevel 21 = .ok (.astore_n 3, 1) := by decide +kernel
theorem dX2_dripFromLevel_22 : decode cX2_dripFromLevel 22 = .ok (.aload_n 3, 1) := by decide +kernel
theorem dX2_dripFromLevel_23 : decode cX2_dripFromLevel 23 = .ok (.getfield 60, 3) := by decide +kernel
theorem dX2_dripFromLevel_26 : decode cX2_dripFromLevel 26 = .ok (.ifCond .eq 21, 3) := by decide +kernel
theorem dX2_dripFromLevel_29 : decode cX2_dripFromLevel 29 = .ok (.aload_n 3, 1) := by decide +kernel
theorem dX2_dripFromLevel_30 : decode cX2_dripFromLevel 30 = .ok (.getfield 66, 3) := by decide +kernel
theorem dX2_dripFromLevel_33 : decode cX2_dripFromLevel 33 = .ok (.iload_n 1, 1) := by decide +kernel
theorem dX2_dripFromLevel_34 : decode cX2_dripFromLevel 34 = .ok (.if_icmp .ne 13, 3) := by decide +kernel
theorem dX2_dripFromLevel_37 : decode cX2_dripFromLevel 37 = .ok (.aload_n 0, 1) := by decide +kernel
theorem dX2_dripFromLevel_38 : decode cX2_dripFromLevel 38 = .ok (.aload_n 3, 1) := by decide +kernel
theorem dX2_dripFromLevel_39 : decode cX2_dripFromLevel 39 = .ok (.aload_n 0, 1) := by decide +kernel
theorem dX2_dripFromLevel_40 : decode cX2_dripFromLevel 40 = .ok (.iload_n 2, 1) := by decide +kernel
theorem dX2_dripFromLevel_41 : decode cX2_dripFromLevel 41 = .ok (.invokevirtual 69, 3) := by decide +kernel
theorem dX2_dripFromLevel_44 : decode cX2_dripFromLevel 44 = .ok (.invokevirtual 73, 3) := by decide +kernel
theorem dX2_dripFromLevel_47 : decode cX2_dripFromLevel 47 = .ok (.iinc 2 1, 3) := by decide +kernel
theorem dX2_dripFromLevel_50 : decode cX2_dripFromLevel 50 = .ok (.goto (-48), 3) := by decide +kernel
theorem dX2_dripFromLevel_53 : decode cX2_dripFromLevel 53 = .ok (.return_, 1) := by decide +kernel
theorem dX2_drip_0 : decode cX2_drip 0 = .ok (.aload_n 1, 1) := by decide +kernel
theorem dX2_drip_1 : decode cX2_drip 1 = .ok (.invokevirtual 77, 3) := by decide +kernel
theorem dX2_drip_4 : decode cX2_drip 4 = .ok (.istore_n 3, 1) := by decide +kernel
theorem dX2_drip_5 : decode cX2_drip 5 = .ok (.iload_n 3, 1) := by decide +kernel
theorem dX2_drip_6 : decode cX2_drip 6 = .ok (.iconst 1, 1) := by decide +kernel
theorem dX2_drip_7 : decode cX2_drip 7 = .ok (.if_icmp .ge 4, 3) := by decide +kernel
theorem dX2_drip_10 : decode cX2_drip 10 = .ok (.return_, 1) := by decide +kernel
theorem dX2_drip_11 : decode cX2_drip 11 = .ok (.iload_n 2, 1) := by decide +kernel
theorem dX2_drip_12 : decode cX2_drip 12 = .ok (.iload_n 3, 1) := by decide +kernel
theorem dX2_drip_13 : decode cX2_drip 13 = .ok (.idiv, 1) := by decide +kernel
theorem dX2_drip_14 : decode cX2_drip 14 = .ok (.istore 4, 2) := by decide +kernel
theorem dX2_drip_16 : decode cX2_drip 16 = .ok (.iload_n 2, 1) := by decide +kernel
theorem dX2_drip_17 : decode cX2_drip 17 = .ok (.iload_n 3, 1) := by decide +kernel
theorem dX2_drip_18 : decode cX2_drip 18 = .ok (.irem, 1) := by decide +kernel
theorem dX2_drip_19 : decode cX2_drip 19 = .ok (.istore 5, 2) := by decide +kernel
theorem dX2_drip_21 : decode cX2_drip 21 = .ok (.iconst 0, 1) := by decide +kernel
theorem dX2_drip_22 : decode cX2_drip 22 = .ok (.istore 6, 2) := by decide +kernel
theorem dX2_drip_24 : decode cX2_drip 24 = .ok (.iload 6, 2) := by decide +kernel
theorem dX2_drip_26 : decode cX2_drip 26 = .ok (.iload_n 3, 1) := by decide +kernel
theorem dX2_drip_27 : decode cX2_drip 27 = .ok (.if_icmp .ge 49, 3) := by decide +kernel
theorem dX2_drip_30 : decode cX2_drip 30 = .ok (.iload 6, 2) := by decide +kernel
theorem dX2_drip_32 : decode cX2_drip 32 = .ok (.iload 5, 2) := by decide +kernel
theorem dX2_drip_34 : decode cX2_drip 34 = .ok (.if_icmp .ge 10, 3) := by decide +kernel
theorem dX2_drip_37 : decode cX2_drip 37 = .ok (.iload 4, 2) := by decide +kernel
theorem dX2_drip_39 : decode cX2_drip 39 = .ok (.iconst 1, 1) := by decide +kernel
theorem dX2_drip_40 : decode cX2_drip 40 = .ok (.iadd, 1) := by decide +kernel
theorem dX2_drip_41 : decode cX2_drip 41 = .ok (.goto 5, 3) := by decide +kernel
theorem dX2_drip_44 : decode cX2_drip 44 = .ok (.iload 4, 2) := by decide +kernel
theorem dX2_drip_46 : decode cX2_drip 46 = .ok (.istore 7, 2) := by decide +kernel
theorem dX2_drip_48 : decode cX2_drip 48 = .ok (.aload_n 0, 1) := by decide +kernel
theorem dX2_drip_49 : decode cX2_drip 49 = .ok (.iload 7, 2) := by decide +kernel
theorem dX2_drip_51 : decode cX2_drip 51 = .ok (.aload_n 1, 1) := by decide +kernel
theorem dX2_drip_52 : decode cX2_drip 52 = .ok (.iload 6, 2) := by decide +kernel
theorem dX2_drip_54 : decode cX2_drip 54 = .ok (.invokevirtual 80, 3) := by decide +kernel
theorem dX2_drip_57 : decode cX2_drip 57 = .ok (.aload_n 1, 1) := by decide +kernel
theorem dX2_drip_58 : decode cX2_drip 58 = .ok (.iload 6, 2) := by decide +kernel
theorem dX2_drip_60 : decode cX2_drip 60 = .ok (.invokevirtual 83, 3) := by decide +kernel
theorem dX2_drip_63 : decode cX2_drip 63 = .ok (.aload_n 1, 1) := by decide +kernel
theorem dX2_drip_64 : decode cX2_drip 64 = .ok (.getfield 66, 3) := by decide +kernel
theorem dX2_drip_67 : decode cX2_drip 67 = .ok (.invokevirtual 32, 3) := by decide +kernel
theorem dX2_drip_70 : decode cX2_drip 70 = .ok (.iinc 6 1, 3) := by decide +kernel
theorem dX2_drip_73 : decode cX2_drip 73 = .ok (.goto (-49), 3) := by decide +kernel
theorem dX2_drip_76 : decode cX2_drip 76 = .ok (.return_, 1) := by decide +kernel
theorem dX2_land_0 : decode cX2_land 0 = .ok (.iload_n 2, 1) := by decide +kernel
theorem dX2_land_1 : decode cX2_land 1 = .ok (.iload_n 3, 1) := by decide +kernel
theorem dX2_land_2 : decode cX2_land 2 = .ok (.invokestatic 40, 3) := by decide +kernel
theorem dX2_land_5 : decode cX2_land 5 = .ok (.ifCond .ne 14, 3) := by decide +kernel
theorem dX2_land_8 : decode cX2_land 8 = .ok (.aload_n 0, 1) := by decide +kernel
theorem dX2_land_9 : decode cX2_land 9 = .ok (.dup, 1) := by decide +kernel
theorem dX2_land_10 : decode cX2_land 10 = .ok (.getfield 26, 3) := by decide +kernel
theorem dX2_land_13 : decode cX2_land 13 = .ok (.iload_n 1, 1) := by decide +kernel
theorem dX2_land_14 : decode cX2_land 14 = .ok (.iadd, 1) := by decide +kernel
theorem dX2_land_15 : decode cX2_land 15 = .ok (.putfield 26, 3) := by decide +kernel
theorem dX2_land_18 : decode cX2_land 18 = .ok (.return_, 1) := by decide +kernel
theorem dX2_land_19 : decode cX2_land 19 = .ok (.aload_n 0, 1) := by decide +kernel
theorem dX2_land_20 : decode cX2_land 20 = .ok (.getfield 9, 3) := by decide +kernel
theorem dX2_land_23 : decode cX2_land 23 = .ok (.iload 4, 2) := by decide +kernel
theorem dX2_land_25 : decode cX2_land 25 = .ok (.iload_n 2, 1) := by decide +kernel
theorem dX2_land_26 : decode cX2_land 26 = .ok (.iload_n 3, 1) := by decide +kernel
theorem dX2_land_27 : decode cX2_land 27 = .ok (.invokevirtual 86, 3) := by decide +kernel
theorem dX2_land_30 : decode cX2_land 30 = .ok (.istore 5, 2) := by decide +kernel
theorem dX2_land_32 : decode cX2_land 32 = .ok (.iload 5, 2) := by decide +kernel
theorem dX2_land_34 : decode cX2_land 34 = .ok (.ifCond .lt 27, 3) := by decide +kernel
theorem dX2_land_37 : decode cX2_land 37 = .ok (.iload 5, 2) := by decide +kernel
theorem dX2_land_39 : decode cX2_land 39 = .ok (.aload_n 0, 1) := by decide +kernel
theorem dX2_land_40 : decode cX2_land 40 = .ok (.getfield 19, 3) := by decide +kernel
theorem dX2_land_43 : decode cX2_land 43 = .ok (.arraylength, 1) := by decide +kernel
theorem dX2_land_44 : decode cX2_land 44 = .ok (.if_icmp .ge 17, 3) := by decide +kernel
theorem dX2_land_47 : decode cX2_land 47 = .ok (.aload_n 0, 1) := by decide +kernel
theorem dX2_land_48 : decode cX2_land 48 = .ok (.getfield 19, 3) := by decide +kernel
theorem dX2_land_51 : decode cX2_land 51 = .ok (.iload 5, 2) := by decide +kernel
theorem dX2_land_53 : decode cX2_land 53 = .ok (.dup2, 1) := by decide +kernel
theorem dX2_land_54 : decode cX2_land 54 = .ok (.iaload, 1) := by decide +kernel
theorem dX2_land_55 : decode cX2_land 55 = .ok (.iload_n 1, 1) := by decide +kernel
theorem dX2_land_56 : decode cX2_land 56 = .ok (.iadd, 1) := by decide +kernel
theorem dX2_land_57 : decode cX2_land 57 = .ok (.iastore, 1) := by decide +kernel
theorem dX2_land_58 : decode cX2_land 58 = .ok (.goto 28, 3) := by decide +kernel
theorem dX2_land_61 : decode cX2_land 61 = .ok (.aload_n 0, 1) := by decide +kernel
theorem dX2_land_62 : decode cX2_land 62 = .ok (.getfield 15, 3) := by decide +kernel
theorem dX2_land_65 : decode cX2_land 65 = .ok (.iload_n 3, 1) := by decide +kernel
theorem dX2_land_66 : decode cX2_land 66 = .ok (.bipush 24, 2) := by decide +kernel
theorem dX2_land_68 : decode cX2_land 68 = .ok (.imul, 1) := by decide +kernel
theorem dX2_land_69 : decode cX2_land 69 = .ok (.iload_n 2, 1) := by decide +kernel
theorem dX2_land_70 : decode cX2_land 70 = .ok (.iadd, 1) := by decide +kernel
theorem dX2_land_71 : decode cX2_land 71 = .ok (.dup2, 1) := by decide +kernel
theorem dX2_land_72 : decode cX2_land 72 = .ok (.iaload, 1) := by decide +kernel
theorem dX2_land_73 : decode cX2_land 73 = .ok (.iload_n 1, 1) := by decide +kernel
theorem dX2_land_74 : decode cX2_land 74 = .ok (.iadd, 1) := by decide +kernel
theorem dX2_land_75 : decode cX2_land 75 = .ok (.iastore, 1) := by decide +kernel
theorem dX2_land_76 : decode cX2_land 76 = .ok (.aload_n 0, 1) := by decide +kernel
theorem dX2_land_77 : decode cX2_land 77 = .ok (.dup, 1) := by decide +kernel
theorem dX2_land_78 : decode cX2_land 78 = .ok (.getfield 22, 3) := by decide +kernel
theorem dX2_land_81 : decode cX2_land 81 = .ok (.iload_n 1, 1) := by decide +kernel
theorem dX2_land_82 : decode cX2_land 82 = .ok (.iadd, 1) := by decide +kernel
theorem dX2_land_83 : decode cX2_land 83 = .ok (.putfield 22, 3) := by decide +kernel
theorem dX2_land_86 : decode cX2_land 86 = .ok (.return_, 1) := by decide +kernel
theorem dX3_init_0 : decode cX3_init 0 = .ok (.aload_n 0, 1) := by decide +kernel
theorem dX3_init_1 : decode cX3_init 1 = .ok (.invokespecial 1, 3) := by decide +kernel
theorem dX3_init_4 : decode cX3_init 4 = .ok (.aload_n 0, 1) := by decide +kernel
theorem dX3_init_5 : decode cX3_init 5 = .ok (.iload_n 1, 1) := by decide +kernel
theorem dX3_init_6 : decode cX3_init 6 = .ok (.putfield 7, 3) := by decide +kernel
theorem dX3_init_9 : decode cX3_init 9 = .ok (.aload_n 0, 1) := by decide +kernel
theorem dX3_init_10 : decode cX3_init 10 = .ok (.iload_n 2, 1) := by decide +kernel
theorem dX3_init_11 : decode cX3_init 11 = .ok (.putfield 13, 3) := by decide +kernel
theorem dX3_init_14 : decode cX3_init 14 = .ok (.aload_n 0, 1) := by decide +kernel
theorem dX3_init_15 : decode cX3_init 15 = .ok (.iload_n 3, 1) := by decide +kernel
theorem dX3_init_16 : decode cX3_init 16 = .ok (.putfield 16, 3) := by decide +kernel
theorem dX3_init_19 : decode cX3_init 19 = .ok (.return_, 1) := by decide +kernel
theorem dX4_init_0 : decode cX4_init 0 = .ok (.aload_n 0, 1) := by decide +kernel
theorem dX4_init_1 : decode cX4_init 1 = .ok (.invokespecial 3, 3) := by decide +kernel
theorem dX4_init_4 : decode cX4_init 4 = .ok (.aload_n 0, 1) := by decide +kernel
theorem dX4_init_5 : decode cX4_init 5 = .ok (.new 9, 3) := by decide +kernel
theorem dX4_init_8 : decode cX4_init 8 = .ok (.dup, 1) := by decide +kernel
theorem dX4_init_9 : decode cX4_init 9 = .ok (.invokespecial 11, 3) := by decide +kernel
theorem dX4_init_12 : decode cX4_init 12 = .ok (.putfield 12, 3) := by decide +kernel
theorem dX4_init_15 : decode cX4_init 15 = .ok (.aload_n 0, 1) := by decide +kernel
theorem dX4_init_16 : decode cX4_init 16 = .ok (.new 16, 3) := by decide +kernel
theorem dX4_init_19 : decode cX4_init 19 = .ok (.dup, 1) := by decide +kernel
theorem dX4_init_20 : decode cX4_init 20 = .ok (.aload_n 0, 1) := by decide +kernel
theorem dX4_init_21 : decode cX4_init 21 = .ok (.getfield 12, 3) := by decide +kernel
theorem dX4_init_24 : decode cX4_init 24 = .ok (.invokespecial 18, 3) := by decide +kernel
theorem dX4_init_27 : decode cX4_init 27 = .ok (.putfield 21, 3) := by decide +kernel
theorem dX4_init_30 : decode cX4_init 30 = .ok (.aload_n 0, 1) := by decide +kernel
theorem dX4_init_31 : decode cX4_init 31 = .ok (.new 25, 3) := by decide +kernel
theorem dX4_init_34 : decode cX4_init 34 = .ok (.dup, 1) := by decide +kernel
theorem dX4_init_35 : decode cX4_init 35 = .ok (.invokespecial 27, 3) := by decide +kernel
theorem dX4_init_38 : decode cX4_init 38 = .ok (.putfield 28, 3) := by decide +kernel
theorem dX4_init_41 : decode cX4_init 41 = .ok (.aload_n 0, 1) := by decide +kernel
theorem dX4_init_42 : decode cX4_init 42 = .ok (.sipush 576, 3) := by decide +kernel
theorem dX4_init_45 : decode cX4_init 45 = .ok (.newarray .int, 2) := by decide +kernel
theorem dX4_init_47 : decode cX4_init 47 = .ok (.putfield 32, 3) := by decide +kernel
theorem dX4_init_50 : decode cX4_init 50 = .ok (.aload_n 0, 1) := by decide +kernel
theorem dX4_init_51 : decode cX4_init 51 = .ok (.iconst 0, 1) := by decide +kernel
theorem dX4_init_52 : decode cX4_init 52 = .ok (.putfield 36, 3) := by decide +kernel
theorem dX4_init_55 : decode cX4_init 55 = .ok (.aload_n 0, 1) := by decide +kernel
theorem dX4_init_56 : decode cX4_init 56 = .ok (.iconst 0, 1) := by decide +kernel
theorem dX4_init_57 : decode cX4_init 57 = .ok (.putfield 40, 3) := by decide +kernel
theorem dX4_init_60 : decode cX4_init 60 = .ok (.aload_n 0, 1) := by decide +kernel
theorem dX4_init_61 : decode cX4_init 61 = .ok (.iconst 0, 1) := by decide +kernel
theorem dX4_init_62 : decode cX4_init 62 = .ok (.putfield 43, 3) := by decide +kernel
theorem dX4_init_65 : decode cX4_init 65 = .ok (.return_, 1) := by decide +kernel
theorem dX4_hang_0 : decode cX4_hang 0 = .ok (.iload_n 3, 1) := by decide +kernel
theorem dX4_hang_1 : decode cX4_hang 1 = .ok (.iload 4, 2) := by decide +kernel
theorem dX4_hang_3 : decode cX4_hang 3 = .ok (.invokestatic 46, 3) := by decide +kernel
theorem dX4_hang_6 : decode cX4_hang 6 = .ok (.iload 5, 2) := by decide +kernel
theorem dX4_hang_8 : decode cX4_hang 8 = .ok (.iconst 1, 1) := by decide +kernel
theorem dX4_hang_9 : decode cX4_hang 9 = .ok (.if_icmp .lt 10, 3) := by decide +kernel
theorem dX4_hang_12 : decode cX4_hang 12 = .ok (.iload 5, 2) := by decide +kernel
theorem dX4_hang_14 : decode cX4_hang 14 = .ok (.bipush 9, 2) := by decide +kernel
theorem dX4_hang_16 : decode cX4_hang 16 = .ok (.if_icmp .le 13, 3) := by decide +kernel
theorem dX4_hang_19 : decode cX4_hang 19 = .ok (.new 50, 3) := by decide +kernel
theorem dX4_hang_22 : decode cX4_hang 22 = .ok (.dup, 1) := by decide +kernel
theorem dX4_hang_23 : decode cX4_hang 23 = .ok (.ldc 52, 2) := by decide +kernel
theorem dX4_hang_25 : decode cX4_hang 25 = .ok (.invokespecial 54, 3) := by decide +kernel
theorem dX4_hang_28 : decode cX4_hang 28 = .ok (.athrow, 1) := by decide +kernel
theorem dX4_hang_29 : decode cX4_hang 29 = .ok (.iload 6, 2) := by decide +kernel
theorem dX4_hang_31 : decode cX4_hang 31 = .ok (.ifCond .lt 9, 3) := by decide +kernel
theorem dX4_hang_34 : decode cX4_hang 34 = .ok (.iload 6, 2) := by decide +kernel
theorem dX4_hang_36 : decode cX4_hang 36 = .ok (.iconst 3, 1) := by decide +kernel
theorem dX4_hang_37 : decode cX4_hang 37 = .ok (.if_icmp .le 13, 3) := by decide +kernel
theorem dX4_hang_40 : decode cX4_hang 40 = .ok (.new 50, 3) := by decide +kernel
theorem dX4_hang_43 : decode cX4_hang 43 = .ok (.dup, 1) := by decide +kernel
end
section
theorem dX4_hang_44 : decode cX4_hang 44 = .ok (.ldc 57, 2) := by decide +kernel
theorem dX4_hang_46 : decode cX4_hang 46 = .ok (.invokespecial 54, 3) := by decide +kernel
theorem dX4_hang_49 : decode cX4_hang 49 = .ok (.athrow, 1) := by decide +kernel
theorem dX4_hang_50 : decode cX4_hang 50 = .ok (.iload_n 1, 1) := by decide +kernel
theorem dX4_hang_51 : decode cX4_hang 51 = .ok (.iload_n 2, 1) := by decide +kernel
theorem dX4_hang_52 : decode cX4_hang 52 = .ok (.iload_n 3, 1) := by decide +kernel
theorem dX4_hang_53 : decode cX4_hang 53 = .ok (.iload 4, 2) := by decide +kernel
theorem dX4_hang_55 : decode cX4_hang 55 = .ok (.invokestatic 59, 3) := by decide +kernel
theorem dX4_hang_58 : decode cX4_hang 58 = .ok (.aload_n 0, 1) := by decide +kernel
theorem dX4_hang_59 : decode cX4_hang 59 = .ok (.getfield 12, 3) := by decide +kernel
theorem dX4_hang_62 : decode cX4_hang 62 = .ok (.invokevirtual 63, 3) := by decide +kernel
theorem dX4_hang_65 : decode cX4_hang 65 = .ok (.bipush 10, 2) := by decide +kernel
theorem dX4_hang_67 : decode cX4_hang 67 = .ok (.if_icmp .lt 13, 3) := by decide +kernel
theorem dX4_hang_70 : decode cX4_hang 70 = .ok (.new 67, 3) := by decide +kernel
theorem dX4_hang_73 : decode cX4_hang 73 = .ok (.dup, 1) := by decide +kernel
theorem dX4_hang_74 : decode cX4_hang 74 = .ok (.ldc 69, 2) := by decide +kernel
theorem dX4_hang_76 : decode cX4_hang 76 = .ok (.invokespecial 71, 3) := by decide +kernel
theorem dX4_hang_79 : decode cX4_hang 79 = .ok (.athrow, 1) := by decide +kernel
theorem dX4_hang_80 : decode cX4_hang 80 = .ok (.aload_n 0, 1) := by decide +kernel
theorem dX4_hang_81 : decode cX4_hang 81 = .ok (.getfield 12, 3) := by decide +kernel
theorem dX4_hang_84 : decode cX4_hang 84 = .ok (.new 72, 3) := by decide +kernel
theorem dX4_hang_87 : decode cX4_hang 87 = .ok (.dup, 1) := by decide +kernel
theorem dX4_hang_88 : decode cX4_hang 88 = .ok (.iload_n 1, 1) := by decide +kernel
theorem dX4_hang_89 : decode cX4_hang 89 = .ok (.iload_n 2, 1) := by decide +kernel
theorem dX4_hang_90 : decode cX4_hang 90 = .ok (.iload_n 3, 1) := by decide +kernel
theorem dX4_hang_91 : decode cX4_hang 91 = .ok (.iload 4, 2) := by decide +kernel
theorem dX4_hang_93 : decode cX4_hang 93 = .ok (.iload 5, 2) := by decide +kernel
theorem dX4_hang_95 : decode cX4_hang 95 = .ok (.iload 6, 2) := by decide +kernel
theorem dX4_hang_97 : decode cX4_hang 97 = .ok (.invokespecial 74, 3) := by decide +kernel
theorem dX4_hang_100 : decode cX4_hang 100 = .ok (.invokevirtual 77, 3) := by decide +kernel
theorem dX4_hang_103 : decode cX4_hang 103 = .ok (.aload_n 0, 1) := by decide +kernel
theorem dX4_hang_104 : decode cX4_hang 104 = .ok (.getfield 12, 3) := by decide +kernel
theorem dX4_hang_107 : decode cX4_hang 107 = .ok (.invokevirtual 63, 3) := by decide +kernel
theorem dX4_hang_110 : decode cX4_hang 110 = .ok (.iconst 1, 1) := by decide +kernel
theorem dX4_hang_111 : decode cX4_hang 111 = .ok (.isub, 1) := by decide +kernel
theorem dX4_hang_112 : decode cX4_hang 112 = .ok (.ireturn, 1) := by decide +kernel
theorem dX4_roll_0 : decode cX4_roll 0 = .ok (.aload_n 0, 1) := by decide +kernel
theorem dX4_roll_1 : decode cX4_roll 1 = .ok (.getfield 12, 3) := by decide +kernel
theorem dX4_roll_4 : decode cX4_roll 4 = .ok (.iload_n 1, 1) := by decide +kernel
theorem dX4_roll_5 : decode cX4_roll 5 = .ok (.invokevirtual 81, 3) := by decide +kernel
theorem dX4_roll_8 : decode cX4_roll 8 = .ok (.astore_n 2, 1) := by decide +kernel
theorem dX4_roll_9 : decode cX4_roll 9 = .ok (.aload_n 2, 1) := by decide +kernel
theorem dX4_roll_10 : decode cX4_roll 10 = .ok (.aload_n 2, 1) := by decide +kernel
theorem dX4_roll_11 : decode cX4_roll 11 = .ok (.getfield 85, 3) := by decide +kernel
theorem dX4_roll_14 : decode cX4_roll 14 = .ok (.ifCond .ne 7, 3) := by decide +kernel
theorem dX4_roll_17 : decode cX4_roll 17 = .ok (.iconst 1, 1) := by decide +kernel
theorem dX4_roll_18 : decode cX4_roll 18 = .ok (.goto 4, 3) := by decide +kernel
theorem dX4_roll_21 : decode cX4_roll 21 = .ok (.iconst 0, 1) := by decide +kernel
theorem dX4_roll_22 : decode cX4_roll 22 = .ok (.putfield 85, 3) := by decide +kernel
theorem dX4_roll_25 : decode cX4_roll 25 = .ok (.aload_n 0, 1) := by decide +kernel
theorem dX4_roll_26 : decode cX4_roll 26 = .ok (.getfield 12, 3) := by decide +kernel
theorem dX4_roll_29 : decode cX4_roll 29 = .ok (.invokevirtual 89, 3) := by decide +kernel
theorem dX4_roll_32 : decode cX4_roll 32 = .ok (.aload_n 2, 1) := by decide +kernel
theorem dX4_roll_33 : decode cX4_roll 33 = .ok (.getfield 85, 3) := by decide +kernel
theorem dX4_roll_36 : decode cX4_roll 36 = .ok (.ireturn, 1) := by decide +kernel
theorem dX4_move_0 : decode cX4_move 0 = .ok (.aload_n 0, 1) := by decide +kernel
theorem dX4_move_1 : decode cX4_move 1 = .ok (.getfield 12, 3) := by decide +kernel
theorem dX4_move_4 : decode cX4_move 4 = .ok (.iload_n 1, 1) := by decide +kernel
theorem dX4_move_5 : decode cX4_move 5 = .ok (.invokevirtual 81, 3) := by decide +kernel
theorem dX4_move_8 : decode cX4_move 8 = .ok (.astore 4, 2) := by decide +kernel
theorem dX4_move_10 : decode cX4_move 10 = .ok (.iload_n 2, 1) := by decide +kernel
theorem dX4_move_11 : decode cX4_move 11 = .ok (.iload_n 3, 1) := by decide +kernel
theorem dX4_move_12 : decode cX4_move 12 = .ok (.aload 4, 2) := by decide +kernel
theorem dX4_move_14 : decode cX4_move 14 = .ok (.getfield 92, 3) := by decide +kernel
theorem dX4_move_17 : decode cX4_move 17 = .ok (.aload 4, 2) := by decide +kernel
theorem dX4_move_19 : decode cX4_move 19 = .ok (.getfield 95, 3) := by decide +kernel
theorem dX4_move_22 : decode cX4_move 22 = .ok (.invokestatic 59, 3) := by decide +kernel
theorem dX4_move_25 : decode cX4_move 25 = .ok (.aload 4, 2) := by decide +kernel
theorem dX4_move_27 : decode cX4_move 27 = .ok (.iload_n 2, 1) := by decide +kernel
theorem dX4_move_28 : decode cX4_move 28 = .ok (.putfield 98, 3) := by decide +kernel
theorem dX4_move_31 : decode cX4_move 31 = .ok (.aload 4, 2) := by decide +kernel
theorem dX4_move_33 : decode cX4_move 33 = .ok (.iload_n 3, 1) := by decide +kernel
theorem dX4_move_34 : decode cX4_move 34 = .ok (.putfield 101, 3) := by decide +kernel
theorem dX4_move_37 : decode cX4_move 37 = .ok (.aload_n 0, 1) := by decide +kernel
theorem dX4_move_38 : decode cX4_move 38 = .ok (.getfield 12, 3) := by decide +kernel
theorem dX4_move_41 : decode cX4_move 41 = .ok (.invokevirtual 89, 3) := by decide +kernel
theorem dX4_move_44 : decode cX4_move 44 = .ok (.aload_n 0, 1) := by decide +kernel
theorem dX4_move_45 : decode cX4_move 45 = .ok (.getfield 12, 3) := by decide +kernel
theorem dX4_move_48 : decode cX4_move 48 = .ok (.invokevirtual 104, 3) := by decide +kernel
theorem dX4_move_51 : decode cX4_move 51 = .ok (.ireturn, 1) := by decide +kernel
theorem dX4_take_0 : decode cX4_take 0 = .ok (.aload_n 0, 1) := by decide +kernel
theorem dX4_take_1 : decode cX4_take 1 = .ok (.getfield 12, 3) := by decide +kernel
theorem dX4_take_4 : decode cX4_take 4 = .ok (.iload_n 1, 1) := by decide +kernel
theorem dX4_take_5 : decode cX4_take 5 = .ok (.invokevirtual 107, 3) := by decide +kernel
theorem dX4_take_8 : decode cX4_take 8 = .ok (.aload_n 0, 1) := by decide +kernel
theorem dX4_take_9 : decode cX4_take 9 = .ok (.getfield 12, 3) := by decide +kernel
theorem dX4_take_12 : decode cX4_take 12 = .ok (.invokevirtual 63, 3) := by decide +kernel
theorem dX4_take_15 : decode cX4_take 15 = .ok (.ireturn, 1) := by decide +kernel
theorem dX4_stall_0 : decode cX4_stall 0 = .ok (.iload_n 1, 1) := by decide +kernel
theorem dX4_stall_1 : decode cX4_stall 1 = .ok (.iload_n 2, 1) := by decide +kernel
theorem dX4_stall_2 : decode cX4_stall 2 = .ok (.invokestatic 111, 3) := by decide +kernel
theorem dX4_stall_5 : decode cX4_stall 5 = .ok (.aload_n 0, 1) := by decide +kernel
theorem dX4_stall_6 : decode cX4_stall 6 = .ok (.getfield 28, 3) := by decide +kernel
theorem dX4_stall_9 : decode cX4_stall 9 = .ok (.invokevirtual 114, 3) := by decide +kernel
theorem dX4_stall_12 : decode cX4_stall 12 = .ok (.bipush 8, 2) := by decide +kernel
theorem dX4_stall_14 : decode cX4_stall 14 = .ok (.if_icmp .lt 13, 3) := by decide +kernel
theorem dX4_stall_17 : decode cX4_stall 17 = .ok (.new 67, 3) := by decide +kernel
theorem dX4_stall_20 : decode cX4_stall 20 = .ok (.dup, 1) := by decide +kernel
theorem dX4_stall_21 : decode cX4_stall 21 = .ok (.ldc 115, 2) := by decide +kernel
theorem dX4_stall_23 : decode cX4_stall 23 = .ok (.invokespecial 71, 3) := by decide +kernel
theorem dX4_stall_26 : decode cX4_stall 26 = .ok (.athrow, 1) := by decide +kernel
theorem dX4_stall_27 : decode cX4_stall 27 = .ok (.aload_n 0, 1) := by decide +kernel
theorem dX4_stall_28 : decode cX4_stall 28 = .ok (.iload_n 1, 1) := by decide +kernel
theorem dX4_stall_29 : decode cX4_stall 29 = .ok (.iload_n 2, 1) := by decide +kernel
theorem dX4_stall_30 : decode cX4_stall 30 = .ok (.invokevirtual 117, 3) := by decide +kernel
theorem dX4_stall_33 : decode cX4_stall 33 = .ok (.ifCond .eq 13, 3) := by decide +kernel
theorem dX4_stall_36 : decode cX4_stall 36 = .ok (.new 67, 3) := by decide +kernel
theorem dX4_stall_39 : decode cX4_stall 39 = .ok (.dup, 1) := by decide +kernel
theorem dX4_stall_40 : decode cX4_stall 40 = .ok (.ldc 121, 2) := by decide +kernel
theorem dX4_stall_42 : decode cX4_stall 42 = .ok (.invokespecial 71, 3) := by decide +kernel
theorem dX4_stall_45 : decode cX4_stall 45 = .ok (.athrow, 1) := by decide +kernel
theorem dX4_stall_46 : decode cX4_stall 46 = .ok (.aload_n 0, 1) := by decide +kernel
theorem dX4_stall_47 : decode cX4_stall 47 = .ok (.getfield 28, 3) := by decide +kernel
theorem dX4_stall_50 : decode cX4_stall 50 = .ok (.new 123, 3) := by decide +kernel
theorem dX4_stall_53 : decode cX4_stall 53 = .ok (.dup, 1) := by decide +kernel
theorem dX4_stall_54 : decode cX4_stall 54 = .ok (.iload_n 1, 1) := by decide +kernel
theorem dX4_stall_55 : decode cX4_stall 55 = .ok (.iload_n 2, 1) := by decide +kernel
theorem dX4_stall_56 : decode cX4_stall 56 = .ok (.aload_n 0, 1) := by decide +kernel
theorem dX4_stall_57 : decode cX4_stall 57 = .ok (.iload_n 1, 1) := by decide +kernel
theorem dX4_stall_58 : decode cX4_stall 58 = .ok (.iload_n 2, 1) := by decide +kernel
theorem dX4_stall_59 : decode cX4_stall 59 = .ok (.invokevirtual 125, 3) := by decide +kernel
theorem dX4_stall_62 : decode cX4_stall 62 = .ok (.invokespecial 129, 3) := by decide +kernel
theorem dX4_stall_65 : decode cX4_stall 65 = .ok (.invokevirtual 132, 3) := by decide +kernel
theorem dX4_stall_68 : decode cX4_stall 68 = .ok (.pop, 1) := by decide +kernel
theorem dX4_stall_69 : decode cX4_stall 69 = .ok (.aload_n 0, 1) := by decide +kernel
theorem dX4_stall_70 : decode cX4_stall 70 = .ok (.getfield 28, 3) := by decide +kernel
theorem dX4_stall_73 : decode cX4_stall 73 = .ok (.invokevirtual 114, 3) := by decide +kernel
theorem dX4_stall_76 : decode cX4_stall 76 = .ok (.iconst 1, 1) := by decide +kernel
theorem dX4_stall_77 : decode cX4_stall 77 = .ok (.isub, 1) := by decide +kernel
theorem dX4_stall_78 : decode cX4_stall 78 = .ok (.ireturn, 1) := by decide +kernel
theorem dX4_rain_0 : decode cX4_rain 0 = .ok (.iload_n 1, 1) := by decide +kernel
theorem dX4_rain_1 : decode cX4_rain 1 = .ok (.invokestatic 136, 3) := by decide +kernel
theorem dX4_rain_4 : decode cX4_rain 4 = .ok (.aload_n 0, 1) := by decide +kernel
theorem dX4_rain_5 : decode cX4_rain 5 = .ok (.getfield 21, 3) := by decide +kernel
theorem dX4_rain_8 : decode cX4_rain 8 = .ok (.iload_n 1, 1) := by decide +kernel
theorem dX4_rain_9 : decode cX4_rain 9 = .ok (.invokevirtual 139, 3) := by decide +kernel
theorem dX4_rain_12 : decode cX4_rain 12 = .ok (.iconst 0, 1) := by decide +kernel
theorem dX4_rain_13 : decode cX4_rain 13 = .ok (.istore_n 2, 1) := by decide +kernel
theorem dX4_rain_14 : decode cX4_rain 14 = .ok (.iload_n 2, 1) := by decide +kernel
theorem dX4_rain_15 : decode cX4_rain 15 = .ok (.bipush 24, 2) := by decide +kernel
theorem dX4_rain_17 : decode cX4_rain 17 = .ok (.if_icmp .ge 46, 3) := by decide +kernel
theorem dX4_rain_20 : decode cX4_rain 20 = .ok (.iconst 0, 1) := by decide +kernel
theorem dX4_rain_21 : decode cX4_rain 21 = .ok (.istore_n 3, 1) := by decide +kernel
theorem dX4_rain_22 : decode cX4_rain 22 = .ok (.iload_n 3, 1) := by decide +kernel
theorem dX4_rain_23 : decode cX4_rain 23 = .ok (.bipush 24, 2) := by decide +kernel
theorem dX4_rain_25 : decode cX4_rain 25 = .ok (.if_icmp .ge 32, 3) := by decide +kernel
theorem dX4_rain_28 : decode cX4_rain 28 = .ok (.aload_n 0, 1) := by decide +kernel
theorem dX4_rain_29 : decode cX4_rain 29 = .ok (.getfield 32, 3) := by decide +kernel
theorem dX4_rain_32 : decode cX4_rain 32 = .ok (.iload_n 2, 1) := by decide +kernel
theorem dX4_rain_33 : decode cX4_rain 33 = .ok (.bipush 24, 2) := by decide +kernel
theorem dX4_rain_35 : decode cX4_rain 35 = .ok (.imul, 1) := by decide +kernel
theorem dX4_rain_36 : decode cX4_rain 36 = .ok (.iload_n 3, 1) := by decide +kernel
theorem dX4_rain_37 : decode cX4_rain 37 = .ok (.iadd, 1) := by decide +kernel
theorem dX4_rain_38 : decode cX4_rain 38 = .ok (.dup2, 1) := by decide +kernel
theorem dX4_rain_39 : decode cX4_rain 39 = .ok (.iaload, 1) := by decide +kernel
theorem dX4_rain_40 : decode cX4_rain 40 = .ok (.aload_n 0, 1) := by decide +kernel
theorem dX4_rain_41 : decode cX4_rain 41 = .ok (.getfield 21, 3) := by decide +kernel
theorem dX4_rain_44 : decode cX4_rain 44 = .ok (.iload_n 3, 1) := by decide +kernel
theorem dX4_rain_45 : decode cX4_rain 45 = .ok (.iload_n 2, 1) := by decide +kernel
theorem dX4_rain_46 : decode cX4_rain 46 = .ok (.invokevirtual 142, 3) := by decide +kernel
theorem dX4_rain_49 : decode cX4_rain 49 = .ok (.iadd, 1) := by decide +kernel
theorem dX4_rain_50 : decode cX4_rain 50 = .ok (.iastore, 1) := by decide +kernel
theorem dX4_rain_51 : decode cX4_rain 51 = .ok (.iinc 3 1, 3) := by decide +kernel
theorem dX4_rain_54 : decode cX4_rain 54 = .ok (.goto (-32), 3) := by decide +kernel
theorem dX4_rain_57 : decode cX4_rain 57 = .ok (.iinc 2 1, 3) := by decide +kernel
theorem dX4_rain_60 : decode cX4_rain 60 = .ok (.goto (-46), 3) := by decide +kernel
theorem dX4_rain_63 : decode cX4_rain 63 = .ok (.iconst 0, 1) := by decide +kernel
theorem dX4_rain_64 : decode cX4_rain 64 = .ok (.istore_n 2, 1) := by decide +kernel
theorem dX4_rain_65 : decode cX4_rain 65 = .ok (.iload_n 2, 1) := by decide +kernel
theorem dX4_rain_66 : decode cX4_rain 66 = .ok (.aload_n 0, 1) := by decide +kernel
theorem dX4_rain_67 : decode cX4_rain 67 = .ok (.getfield 12, 3) := by decide +kernel
theorem dX4_rain_70 : decode cX4_rain 70 = .ok (.invokevirtual 63, 3) := by decide +kernel
theorem dX4_rain_73 : decode cX4_rain 73 = .ok (.if_icmp .ge 33, 3) := by decide +kernel
theorem dX4_rain_76 : decode cX4_rain 76 = .ok (.aload_n 0, 1) := by decide +kernel
theorem dX4_rain_77 : decode cX4_rain 77 = .ok (.getfield 12, 3) := by decide +kernel
theorem dX4_rain_80 : decode cX4_rain 80 = .ok (.iload_n 2, 1) := by decide +kernel
theorem dX4_rain_81 : decode cX4_rain 81 = .ok (.invokevirtual 81, 3) := by decide +kernel
theorem dX4_rain_84 : decode cX4_rain 84 = .ok (.dup, 1) := by decide +kernel
theorem dX4_rain_85 : decode cX4_rain 85 = .ok (.getfield 145, 3) := by decide +kernel
theorem dX4_rain_88 : decode cX4_rain 88 = .ok (.aload_n 0, 1) := by decide +kernel
theorem dX4_rain_89 : decode cX4_rain 89 = .ok (.getfield 21, 3) := by decide +kernel
theorem dX4_rain_92 : decode cX4_rain 92 = .ok (.iload_n 2, 1) := by decide +kernel
theorem dX4_rain_93 : decode cX4_rain 93 = .ok (.invokevirtual 148, 3) := by decide +kernel
theorem dX4_rain_96 : decode cX4_rain 96 = .ok (.iadd, 1) := by decide +kernel
theorem dX4_rain_97 : decode cX4_rain 97 = .ok (.putfield 145, 3) := by decide +kernel
theorem dX4_rain_100 : decode cX4_rain 100 = .ok (.iinc 2 1, 3) := by decide +kernel
theorem dX4_rain_103 : decode cX4_rain 103 = .ok (.goto (-38), 3) := by decide +kernel
theorem dX4_rain_106 : decode cX4_rain 106 = .ok (.aload_n 0, 1) := by decide +kernel
theorem dX4_rain_107 : decode cX4_rain 107 = .ok (.dup, 1) := by decide +kernel
theorem dX4_rain_108 : decode cX4_rain 108 = .ok (.getfield 36, 3) := by decide +kernel
theorem dX4_rain_111 : decode cX4_rain 111 = .ok (.iconst 1, 1) := by decide +kernel
theorem dX4_rain_112 : decode cX4_rain 112 = .ok (.iadd, 1) := by decide +kernel
theorem dX4_rain_113 : decode cX4_rain 113 = .ok (.putfield 36, 3) := by decide +kernel
theorem dX4_rain_116 : decode cX4_rain 116 = .ok (.aload_n 0, 1) := by decide +kernel
theorem dX4_rain_117 : decode cX4_rain 117 = .ok (.dup, 1) := by decide +kernel
theorem dX4_rain_118 : decode cX4_rain 118 = .ok (.getfield 40, 3) := by decide +kernel
theorem dX4_rain_121 : decode cX4_rain 121 = .ok (.aload_n 0, 1) := by decide +kernel
theorem dX4_rain_122 : decode cX4_rain 122 = .ok (.getfield 21, 3) := by decide +kernel
theorem dX4_rain_125 : decode cX4_rain 125 = .ok (.getfield 152, 3) := by decide +kernel
theorem dX4_rain_128 : decode cX4_rain 128 = .ok (.iadd, 1) := by decide +kernel
theorem dX4_rain_129 : decode cX4_rain 129 = .ok (.putfield 40, 3) := by decide +kernel
theorem dX4_rain_132 : decode cX4_rain 132 = .ok (.aload_n 0, 1) := by decide +kernel
theorem dX4_rain_133 : decode cX4_rain 133 = .ok (.dup, 1) := by decide +kernel
theorem dX4_rain_134 : decode cX4_rain 134 = .ok (.getfield 43, 3) := by decide +kernel
theorem dX4_rain_137 : decode cX4_rain 137 = .ok (.aload_n 0, 1) := by decide +kernel
theorem dX4_rain_138 : decode cX4_rain 138 = .ok (.getfield 21, 3) := by decide +kernel
theorem dX4_rain_141 : decode cX4_rain 141 = .ok (.getfield 155, 3) := by decide +kernel
theorem dX4_rain_144 : decode cX4_rain 144 = .ok (.iadd, 1) := by decide +kernel
theorem dX4_rain_145 : decode cX4_rain 145 = .ok (.putfield 43, 3) := by decide +kernel
theorem dX4_rain_148 : decode cX4_rain 148 = .ok (.aload_n 0, 1) := by decide +kernel
theorem dX4_rain_149 : decode cX4_rain 149 = .ok (.getfield 21, 3) := by decide +kernel
theorem dX4_rain_152 : decode cX4_rain 152 = .ok (.getfield 152, 3) := by decide +kernel
theorem dX4_rain_155 : decode cX4_rain 155 = .ok (.ireturn, 1) := by decide +kernel
theorem dX4_about_0 : decode cX4_about 0 = .ok (.aload_n 0, 1) := by decide +kernel
theorem dX4_about_1 : decode cX4_about 1 = .ok (.getfield 12, 3) := by decide +kernel
theorem dX4_about_4 : decode cX4_about 4 = .ok (.iload_n 1, 1) := by decide +kernel
theorem dX4_about_5 : decode cX4_about 5 = .ok (.invokevirtual 81, 3) := by decide +kernel
theorem dX4_about_8 : decode cX4_about 8 = .ok (.astore_n 3, 1) := by decide +kernel
theorem dX4_about_9 : decode cX4_about 9 = .ok (.iload_n 2, 1) := by decide +kernel
theorem dX4_about_10 : decode cX4_about 10 = .ok (.bipush 8, 2) := by decide +kernel
theorem dX4_about_12 : decode cX4_about 12 = .ok (.invokestatic 158, 3) := by decide +kernel
theorem dX4_about_15 : decode cX4_about 15 = .ok (.iload_n 2, 1) := by decide +kernel
theorem dX4_about_16 : decode cX4_about 16 = .ok (.tableswitch 100 0 7 #[48, 53, 58, 63, 68, 73, 78, 91], 48) := by decide +kernel
theorem dX4_about_64 : decode cX4_about 64 = .ok (.aload_n 3, 1) := by decide +kernel
theorem dX4_about_65 : decode cX4_about 65 = .ok (.getfield 98, 3) := by decide +kernel
theorem dX4_about_68 : decode cX4_about 68 = .ok (.ireturn, 1) := by decide +kernel
theorem dX4_about_69 : decode cX4_about 69 = .ok (.aload_n 3, 1) := by decide +kernel
theorem dX4_about_70 : decode cX4_about 70 = .ok (.getfield 101, 3) := by decide +kernel
theorem dX4_about_73 : decode cX4_about 73 = .ok (.ireturn, 1) := by decide +kernel
theorem dX4_about_74 : decode cX4_about 74 = .ok (.aload_n 3, 1) := by decide +kernel
theorem dX4_about_75 : decode cX4_about 75 = .ok (.getfield 92, 3) := by decide +kernel
theorem dX4_about_78 : decode cX4_about 78 = .ok (.ireturn, 1) := by decide +kernel
theorem dX4_about_79 : decode cX4_about 79 = .ok (.aload_n 3, 1) := by decide +kernel
theorem dX4_about_80 : decode cX4_about 80 = .ok (.getfield 95, 3) := by decide +kernel
theorem dX4_about_83 : decode cX4_about 83 = .ok (.ireturn, 1) := by decide +kernel
theorem dX4_about_84 : decode cX4_about 84 = .ok (.aload_n 3, 1) := by decide +kernel
theorem dX4_about_85 : decode cX4_about 85 = .ok (.getfield 161, 3) := by decide +kernel
theorem dX4_about_88 : decode cX4_about 88 = .ok (.ireturn, 1) := by decide +kernel
theorem dX4_about_89 : decode cX4_about 89 = .ok (.aload_n 3, 1) := by decide +kernel
theorem dX4_about_90 : decode cX4_about 90 = .ok (.getfield 164, 3) := by decide +kernel
theorem dX4_about_93 : decode cX4_about 93 = .ok (.ireturn, 1) := by decide +kernel
theorem dX4_about_94 : decode cX4_about 94 = .ok (.aload_n 3, 1) := by decide +kernel
theorem dX4_about_95 : decode cX4_about 95 = .ok (.getfield 85, 3) := by decide +kernel
theorem dX4_about_98 : decode cX4_about 98 = .ok (.ifCond .eq 7, 3) := by decide +kernel
theorem dX4_about_101 : decode cX4_about 101 = .ok (.iconst 1, 1) := by decide +kernel
theorem dX4_about_102 : decode cX4_about 102 = .ok (.goto 4, 3) := by decide +kernel
theorem dX4_about_105 : decode cX4_about 105 = .ok (.iconst 0, 1) := by decide +kernel
theorem dX4_about_106 : decode cX4_about 106 = .ok (.ireturn, 1) := by decide +kernel
theorem dX4_about_107 : decode cX4_about 107 = .ok (.aload_n 0, 1) := by decide +kernel
theorem dX4_about_108 : decode cX4_about 108 = .ok (.getfield 12, 3) := by decide +kernel
theorem dX4_about_111 : decode cX4_about 111 = .ok (.aload_n 3, 1) := by decide +kernel
theorem dX4_about_112 : decode cX4_about 112 = .ok (.invokevirtual 167, 3) := by decide +kernel
theorem dX4_about_115 : decode cX4_about 115 = .ok (.ireturn, 1) := by decide +kernel
theorem dX4_about_116 : decode cX4_about 116 = .ok (.aload_n 3, 1) := by decide +kernel
theorem dX4_about_117 : decode cX4_about 117 = .ok (.getfield 145, 3) := by decide +kernel
theorem dX4_about_120 : decode cX4_about 120 = .ok (.ireturn, 1) := by decide +kernel
theorem dX4_cell_0 : decode cX4_cell 0 = .ok (.iload_n 1, 1) := by decide +kernel
theorem dX4_cell_1 : decode cX4_cell 1 = .ok (.iload_n 2, 1) := by decide +kernel
theorem dX4_cell_2 : decode cX4_cell 2 = .ok (.invokestatic 111, 3) := by decide +kernel
theorem dX4_cell_5 : decode cX4_cell 5 = .ok (.iload_n 3, 1) := by decide +kernel
theorem dX4_cell_6 : decode cX4_cell 6 = .ok (.iconst 2, 1) := by decide +kernel
theorem dX4_cell_7 : decode cX4_cell 7 = .ok (.invokestatic 158, 3) := by decide +kernel
theorem dX4_cell_10 : decode cX4_cell 10 = .ok (.iload_n 3, 1) := by decide +kernel
theorem dX4_cell_11 : decode cX4_cell 11 = .ok (.lookupswitch 47 #[(0, 25), (1, 35)], 25) := by decide +kernel
theorem dX4_cell_36 : decode cX4_cell 36 = .ok (.aload_n 0, 1) := by decide +kernel
theorem dX4_cell_37 : decode cX4_cell 37 = .ok (.getfield 12, 3) := by decide +kernel
theorem dX4_cell_40 : decode cX4_cell 40 = .ok (.iload_n 1, 1) := by decide +kernel
theorem dX4_cell_41 : decode cX4_cell 41 = .ok (.iload_n 2, 1) := by decide +kernel
theorem dX4_cell_42 : decode cX4_cell 42 = .ok (.invokevirtual 171, 3) := by decide +kernel
theorem dX4_cell_45 : decode cX4_cell 45 = .ok (.ireturn, 1) := by decide +kernel
theorem dX4_cell_46 : decode cX4_cell 46 = .ok (.aload_n 0, 1) := by decide +kernel
theorem dX4_cell_47 : decode cX4_cell 47 = .ok (.getfield 12, 3) := by decide +kernel
theorem dX4_cell_50 : decode cX4_cell 50 = .ok (.bipush 10, 2) := by decide +kernel
theorem dX4_cell_52 : decode cX4_cell 52 = .ok (.iload_n 1, 1) := by decide +kernel
theorem dX4_cell_53 : decode cX4_cell 53 = .ok (.iload_n 2, 1) := by decide +kernel
theorem dX4_cell_54 : decode cX4_cell 54 = .ok (.invokevirtual 174, 3) := by decide +kernel
theorem dX4_cell_57 : decode cX4_cell 57 = .ok (.ireturn, 1) := by decide +kernel
theorem dX4_cell_58 : decode cX4_cell 58 = .ok (.aload_n 0, 1) := by decide +kernel
theorem dX4_cell_59 : decode cX4_cell 59 = .ok (.iload_n 1, 1) := by decide +kernel
theorem dX4_cell_60 : decode cX4_cell 60 = .ok (.iload_n 2, 1) := by decide +kernel
theorem dX4_cell_61 : decode cX4_cell 61 = .ok (.invokevirtual 125, 3) := by decide +kernel
theorem dX4_cell_64 : decode cX4_cell 64 = .ok (.ireturn, 1) := by decide +kernel
theorem dX4_cord_0 : decode cX4_cord 0 = .ok (.iload_n 1, 1) := by decide +kernel
theorem dX4_cord_1 : decode cX4_cord 1 = .ok (.ifCond .lt 9, 3) := by decide +kernel
theorem dX4_cord_4 : decode cX4_cord 4 = .ok (.iload_n 1, 1) := by decide +kernel
theorem dX4_cord_5 : decode cX4_cord 5 = .ok (.bipush 24, 2) := by decide +kernel
theorem dX4_cord_7 : decode cX4_cord 7 = .ok (.if_icmp .lt 13, 3) := by decide +kernel
theorem dX4_cord_10 : decode cX4_cord 10 = .ok (.new 178, 3) := by decide +kernel
theorem dX4_cord_13 : decode cX4_cord 13 = .ok (.dup, 1) := by decide +kernel
theorem dX4_cord_14 : decode cX4_cord 14 = .ok (.ldc 180, 2) := by decide +kernel
theorem dX4_cord_16 : decode cX4_cord 16 = .ok (.invokespecial 182, 3) := by decide +kernel
theorem dX4_cord_19 : decode cX4_cord 19 = .ok (.athrow, 1) := by decide +kernel
theorem dX4_cord_20 : decode cX4_cord 20 = .ok (.iload_n 2, 1) := by decide +kernel
theorem dX4_cord_21 : decode cX4_cord 21 = .ok (.iconst 3, 1) := by decide +kernel
theorem dX4_cord_22 : decode cX4_cord 22 = .ok (.invokestatic 158, 3) := by decide +kernel
theorem dX4_cord_25 : decode cX4_cord 25 = .ok (.iload_n 2, 1) := by decide +kernel
theorem dX4_cord_26 : decode cX4_cord 26 = .ok (.tableswitch 53 0 2 #[26, 35, 44], 26) := by decide +kernel
theorem dX4_cord_52 : decode cX4_cord 52 = .ok (.aload_n 0, 1) := by decide +kernel
theorem dX4_cord_53 : decode cX4_cord 53 = .ok (.getfield 12, 3) := by decide +kernel
theorem dX4_cord_56 : decode cX4_cord 56 = .ok (.iload_n 1, 1) := by decide +kernel
theorem dX4_cord_57 : decode cX4_cord 57 = .ok (.invokevirtual 183, 3) := by decide +kernel
theorem dX4_cord_60 : decode cX4_cord 60 = .ok (.ireturn, 1) := by decide +kernel
theorem dX4_cord_61 : decode cX4_cord 61 = .ok (.aload_n 0, 1) := by decide +kernel
theorem dX4_cord_62 : decode cX4_cord 62 = .ok (.getfield 12, 3) := by decide +kernel
theorem dX4_cord_65 : decode cX4_cord 65 = .ok (.iload_n 1, 1) := by decide +kernel
theorem dX4_cord_66 : decode cX4_cord 66 = .ok (.invokevirtual 186, 3) := by decide +kernel
theorem dX4_cord_69 : decode cX4_cord 69 = .ok (.ireturn, 1) := by decide +kernel
theorem dX4_cord_70 : decode cX4_cord 70 = .ok (.aload_n 0, 1) := by decide +kernel
theorem dX4_cord_71 : decode cX4_cord 71 = .ok (.getfield 12, 3) := by decide +kernel
theorem dX4_cord_74 : decode cX4_cord 74 = .ok (.iload_n 1, 1) := by decide +kernel
theorem dX4_cord_75 : decode cX4_cord 75 = .ok (.invokevirtual 189, 3) := by decide +kernel
theorem dX4_cord_78 : decode cX4_cord 78 = .ok (.ireturn, 1) := by decide +kernel
theorem dX4_cord_79 : decode cX4_cord 79 = .ok (.aload_n 0, 1) := by decide +kernel
theorem dX4_cord_80 : decode cX4_cord 80 = .ok (.getfield 12, 3) := by decide +kernel
theorem dX4_cord_83 : decode cX4_cord 83 = .ok (.iload_n 1, 1) := by decide +kernel
theorem dX4_cord_84 : decode cX4_cord 84 = .ok (.invokevirtual 192, 3) := by decide +kernel
theorem dX4_cord_87 : decode cX4_cord 87 = .ok (.ireturn, 1) := by decide +kernel
theorem dX4_told_0 : decode cX4_told 0 = .ok (.aload_n 0, 1) := by decide +kernel
theorem dX4_told_1 : decode cX4_told 1 = .ok (.iload_n 1, 1) := by decide +kernel
theorem dX4_told_2 : decode cX4_told 2 = .ok (.invokevirtual 195, 3) := by decide +kernel
theorem dX4_told_5 : decode cX4_told 5 = .ok (.astore_n 3, 1) := by decide +kernel
theorem dX4_told_6 : decode cX4_told 6 = .ok (.iload_n 2, 1) := by decide +kernel
theorem dX4_told_7 : decode cX4_told 7 = .ok (.iconst 3, 1) := by decide +kernel
theorem dX4_told_8 : decode cX4_told 8 = .ok (.invokestatic 158, 3) := by decide +kernel
theorem dX4_told_11 : decode cX4_told 11 = .ok (.iload_n 2, 1) := by decide +kernel
theorem dX4_told_12 : decode cX4_told 12 = .ok (.tableswitch 44 0 2 #[28, 33, 38], 28) := by decide +kernel
theorem dX4_told_40 : decode cX4_told 40 = .ok (.aload_n 3, 1) := by decide +kernel
theorem dX4_told_41 : decode cX4_told 41 = .ok (.getfield 199, 3) := by decide +kernel
theorem dX4_told_44 : decode cX4_told 44 = .ok (.ireturn, 1) := by decide +kernel
theorem dX4_told_45 : decode cX4_told 45 = .ok (.aload_n 3, 1) := by decide +kernel
theorem dX4_told_46 : decode cX4_told 46 = .ok (.getfield 200, 3) := by decide +kernel
theorem dX4_told_49 : decode cX4_told 49 = .ok (.ireturn, 1) := by decide +kernel
theorem dX4_told_50 : decode cX4_told 50 = .ok (.aload_n 0, 1) := by decide +kernel
theorem dX4_told_51 : decode cX4_told 51 = .ok (.aload_n 3, 1) := by decide +kernel
theorem dX4_told_52 : decode cX4_told 52 = .ok (.invokevirtual 201, 3) := by decide +kernel
theorem dX4_told_55 : decode cX4_told 55 = .ok (.ireturn, 1) := by decide +kernel
theorem dX4_told_56 : decode cX4_told 56 = .ok (.aload_n 0, 1) := by decide +kernel
theorem dX4_told_57 : decode cX4_told 57 = .ok (.getfield 12, 3) := by decide +kernel
theorem dX4_told_60 : decode cX4_told 60 = .ok (.aload_n 3, 1) := by decide +kernel
theorem dX4_told_61 : decode cX4_told 61 = .ok (.getfield 199, 3) := by decide +kernel
theorem dX4_told_64 : decode cX4_told 64 = .ok (.aload_n 3, 1) := by decide +kernel
theorem dX4_told_65 : decode cX4_told 65 = .ok (.getfield 200, 3) := by decide +kernel
theorem dX4_told_68 : decode cX4_told 68 = .ok (.invokevirtual 171, 3) := by decide +kernel
theorem dX4_told_71 : decode cX4_told 71 = .ok (.ireturn, 1) := by decide +kernel
theorem dX4_share_0 : decode cX4_share 0 = .ok (.aload_n 0, 1) := by decide +kernel
theorem dX4_share_1 : decode cX4_share 1 = .ok (.getfield 12, 3) := by decide +kernel
theorem dX4_share_4 : decode cX4_share 4 = .ok (.iload_n 1, 1) := by decide +kernel
theorem dX4_share_5 : decode cX4_share 5 = .ok (.invokevirtual 81, 3) := by decide +kernel
theorem dX4_share_8 : decode cX4_share 8 = .ok (.astore_n 3, 1) := by decide +kernel
theorem dX4_share_9 : decode cX4_share 9 = .ok (.aload_n 0, 1) := by decide +kernel
theorem dX4_share_10 : decode cX4_share 10 = .ok (.getfield 12, 3) := by decide +kernel
theorem dX4_share_13 : decode cX4_share 13 = .ok (.iload_n 2, 1) := by decide +kernel
theorem dX4_share_14 : decode cX4_share 14 = .ok (.invokevirtual 81, 3) := by decide +kernel
theorem dX4_share_17 : decode cX4_share 17 = .ok (.astore 4, 2) := by decide +kernel
theorem dX4_share_19 : decode cX4_share 19 = .ok (.aload_n 3, 1) := by decide +kernel
theorem dX4_share_20 : decode cX4_share 20 = .ok (.getfield 85, 3) := by decide +kernel
theorem dX4_share_23 : decode cX4_share 23 = .ok (.ifCond .eq 11, 3) := by decide +kernel
theorem dX4_share_26 : decode cX4_share 26 = .ok (.aload 4, 2) := by decide +kernel
theorem dX4_share_28 : decode cX4_share 28 = .ok (.getfield 85, 3) := by decide +kernel
theorem dX4_share_31 : decode cX4_share 31 = .ok (.ifCond .ne 5, 3) := by decide +kernel
theorem dX4_share_34 : decode cX4_share 34 = .ok (.iconst 0, 1) := by decide +kernel
theorem dX4_share_35 : decode cX4_share 35 = .ok (.ireturn, 1) := by decide +kernel
theorem dX4_share_36 : decode cX4_share 36 = .ok (.aload_n 3, 1) := by decide +kernel
theorem dX4_share_37 : decode cX4_share 37 = .ok (.getfield 98, 3) := by decide +kernel
theorem dX4_share_40 : decode cX4_share 40 = .ok (.aload_n 3, 1) := by decide +kernel
theorem dX4_share_41 : decode cX4_share 41 = .ok (.getfield 92, 3) := by decide +kernel
theorem dX4_share_44 : decode cX4_share 44 = .ok (.iadd, 1) := by decide +kernel
theorem dX4_share_45 : decode cX4_share 45 = .ok (.aload 4, 2) := by decide +kernel
theorem dX4_share_47 : decode cX4_share 47 = .ok (.getfield 98, 3) := by decide +kernel
theorem dX4_share_50 : decode cX4_share 50 = .ok (.aload 4, 2) := by decide +kernel
theorem dX4_share_52 : decode cX4_share 52 = .ok (.getfield 92, 3) := by decide +kernel
theorem dX4_share_55 : decode cX4_share 55 = .ok (.iadd, 1) := by decide +kernel
theorem dX4_share_56 : decode cX4_share 56 = .ok (.invokestatic 205, 3) := by decide +kernel
theorem dX4_share_59 : decode cX4_share 59 = .ok (.aload_n 3, 1) := by decide +kernel
theorem dX4_share_60 : decode cX4_share 60 = .ok (.getfield 98, 3) := by decide +kernel
theorem dX4_share_63 : decode cX4_share 63 = .ok (.aload 4, 2) := by decide +kernel
theorem dX4_share_65 : decode cX4_share 65 = .ok (.getfield 98, 3) := by decide +kernel
theorem dX4_share_68 : decode cX4_share 68 = .ok (.invokestatic 210, 3) := by decide +kernel
theorem dX4_share_71 : decode cX4_share 71 = .ok (.isub, 1) := by decide +kernel
theorem dX4_share_72 : decode cX4_share 72 = .ok (.istore 5, 2) := by decide +kernel
theorem dX4_share_74 : decode cX4_share 74 = .ok (.aload_n 3, 1) := by decide +kernel
theorem dX4_share_75 : decode cX4_share 75 = .ok (.getfield 101, 3) := by decide +kernel
theorem dX4_share_78 : decode cX4_share 78 = .ok (.aload_n 3, 1) := by decide +kernel
theorem dX4_share_79 : decode cX4_share 79 = .ok (.getfield 95, 3) := by decide +kernel
theorem dX4_share_82 : decode cX4_share 82 = .ok (.iadd, 1) := by decide +kernel
theorem dX4_share_83 : decode cX4_share 83 = .ok (.aload 4, 2) := by decide +kernel
theorem dX4_share_85 : decode cX4_share 85 = .ok (.getfield 101, 3) := by decide +kernel
theorem dX4_share_88 : decode cX4_share 88 = .ok (.aload 4, 2) := by decide +kernel
theorem dX4_share_90 : decode cX4_share 90 = .ok (.getfield 95, 3) := by decide +kernel
theorem dX4_share_93 : decode cX4_share 93 = .ok (.iadd, 1) := by decide +kernel
theorem dX4_share_94 : decode cX4_share 94 = .ok (.invokestatic 205, 3) := by decide +kernel
theorem dX4_share_97 : decode cX4_share 97 = .ok (.aload_n 3, 1) := by decide +kernel
theorem dX4_share_98 : decode cX4_share 98 = .ok (.getfield 101, 3) := by decide +kernel
theorem dX4_share_101 : decode cX4_share 101 = .ok (.aload 4, 2) := by decide +kernel
theorem dX4_share_103 : decode cX4_share 103 = .ok (.getfield 101, 3) := by decide +kernel
theorem dX4_share_106 : decode cX4_share 106 = .ok (.invokestatic 210, 3) := by decide +kernel
theorem dX4_share_109 : decode cX4_share 109 = .ok (.isub, 1) := by decide +kernel
theorem dX4_share_110 : decode cX4_share 110 = .ok (.istore 6, 2) := by decide +kernel
theorem dX4_share_112 : decode cX4_share 112 = .ok (.iload 5, 2) := by decide +kernel
theorem dX4_share_114 : decode cX4_share 114 = .ok (.ifCond .le 16, 3) := by decide +kernel
theorem dX4_share_117 : decode cX4_share 117 = .ok (.iload 6, 2) := by decide +kernel
theorem dX4_share_119 : decode cX4_share 119 = .ok (.ifCond .le 11, 3) := by decide +kernel
theorem dX4_share_122 : decode cX4_share 122 = .ok (.iload 5, 2) := by decide +kernel
theorem dX4_share_124 : decode cX4_share 124 = .ok (.iload 6, 2) := by decide +kernel
theorem dX4_share_126 : decode cX4_share 126 = .ok (.imul, 1) := by decide +kernel
theorem dX4_share_127 : decode cX4_share 127 = .ok (.goto 4, 3) := by decide +kernel
theorem dX4_share_130 : decode cX4_share 130 = .ok (.iconst 0, 1) := by decide +kernel
theorem dX4_share_131 : decode cX4_share 131 = .ok (.ireturn, 1) := by decide +kernel
theorem dX4_count_0 : decode cX4_count 0 = .ok (.iload_n 1, 1) := by decide +kernel
theorem dX4_count_1 : decode cX4_count 1 = .ok (.bipush 10, 2) := by decide +kernel
theorem dX4_count_3 : decode cX4_count 3 = .ok (.invokestatic 158, 3) := by decide +kernel
theorem dX4_count_6 : decode cX4_count 6 = .ok (.iload_n 1, 1) := by decide +kernel
theorem dX4_count_7 : decode cX4_count 7 = .ok (.tableswitch 125 0 9 #[53, 61, 69, 77, 85, 93, 101, 110, 115, 120], 53) := by decide +kernel
theorem dX4_count_60 : decode cX4_count 60 = .ok (.aload_n 0, 1) := by decide +kernel
theorem dX4_count_61 : decode cX4_count 61 = .ok (.getfield 12, 3) := by decide +kernel
theorem dX4_count_64 : decode cX4_count 64 = .ok (.invokevirtual 63, 3) := by decide +kernel
theorem dX4_count_67 : decode cX4_count 67 = .ok (.ireturn, 1) := by decide +kernel
theorem dX4_count_68 : decode cX4_count 68 = .ok (.aload_n 0, 1) := by decide +kernel
theorem dX4_count_69 : decode cX4_count 69 = .ok (.getfield 12, 3) := by decide +kernel
theorem dX4_count_72 : decode cX4_count 72 = .ok (.invokevirtual 213, 3) := by decide +kernel
theorem dX4_count_75 : decode cX4_count 75 = .ok (.ireturn, 1) := by decide +kernel
theorem dX4_count_76 : decode cX4_count 76 = .ok (.aload_n 0, 1) := by decide +kernel
theorem dX4_count_77 : decode cX4_count 77 = .ok (.getfield 28, 3) := by decide +kernel
theorem dX4_count_80 : decode cX4_count 80 = .ok (.invokevirtual 114, 3) := by decide +kernel
theorem dX4_count_83 : decode cX4_count 83 = .ok (.ireturn, 1) := by decide +kernel
theorem dX4_count_84 : decode cX4_count 84 = .ok (.aload_n 0, 1) := by decide +kernel
theorem dX4_count_85 : decode cX4_count 85 = .ok (.getfield 12, 3) := by decide +kernel
theorem dX4_count_88 : decode cX4_count 88 = .ok (.invokevirtual 104, 3) := by decide +kernel
theorem dX4_count_91 : decode cX4_count 91 = .ok (.ireturn, 1) := by decide +kernel
theorem dX4_count_92 : decode cX4_count 92 = .ok (.aload_n 0, 1) := by decide +kernel
theorem dX4_count_93 : decode cX4_count 93 = .ok (.getfield 12, 3) := by decide +kernel
theorem dX4_count_96 : decode cX4_count 96 = .ok (.invokevirtual 216, 3) := by decide +kernel
theorem dX4_count_99 : decode cX4_count 99 = .ok (.ireturn, 1) := by decide +kernel
theorem dX4_count_100 : decode cX4_count 100 = .ok (.aload_n 0, 1) := by decide +kernel
theorem dX4_count_101 : decode cX4_count 101 = .ok (.getfield 12, 3) := by decide +kernel
theorem dX4_count_104 : decode cX4_count 104 = .ok (.invokevirtual 219, 3) := by decide +kernel
theorem dX4_count_107 : decode cX4_count 107 = .ok (.ireturn, 1) := by decide +kernel
theorem dX4_count_108 : decode cX4_count 108 = .ok (.aload_n 0, 1) := by decide +kernel
theorem dX4_count_109 : decode cX4_count 109 = .ok (.getfield 12, 3) := by decide +kernel
theorem dX4_count_112 : decode cX4_count 112 = .ok (.iconst 2, 1) := by decide +kernel
theorem dX4_count_113 : decode cX4_count 113 = .ok (.invokevirtual 222, 3) := by decide +kernel
theorem dX4_count_116 : decode cX4_count 116 = .ok (.ireturn, 1) := by decide +kernel
theorem dX4_count_117 : decode cX4_count 117 = .ok (.aload_n 0, 1) := by decide +kernel
theorem dX4_count_118 : decode cX4_count 118 = .ok (.getfield 36, 3) := by decide +kernel
theorem dX4_count_121 : decode cX4_count 121 = .ok (.ireturn, 1) := by decide +kernel
theorem dX4_count_122 : decode cX4_count 122 = .ok (.aload_n 0, 1) := by decide +kernel
theorem dX4_count_123 : decode cX4_count 123 = .ok (.getfield 40, 3) := by decide +kernel
theorem dX4_count_126 : decode cX4_count 126 = .ok (.ireturn, 1) := by decide +kernel
theorem dX4_count_127 : decode cX4_count 127 = .ok (.aload_n 0, 1) := by decide +kernel
theorem dX4_count_128 : decode cX4_count 128 = .ok (.getfield 43, 3) := by decide +kernel
theorem dX4_count_131 : decode cX4_count 131 = .ok (.ireturn, 1) := by decide +kernel
theorem dX4_count_132 : decode cX4_count 132 = .ok (.aload_n 0, 1) := by decide +kernel
theorem dX4_count_133 : decode cX4_count 133 = .ok (.invokevirtual 225, 3) := by decide +kernel
theorem dX4_count_136 : decode cX4_count 136 = .ok (.ireturn, 1) := by decide +kernel
theorem dX4_would_0 : decode cX4_would 0 = .ok (.aload_n 0, 1) := by decide +kernel
theorem dX4_would_1 : decode cX4_would 1 = .ok (.iload_n 1, 1) := by decide +kernel
theorem dX4_would_2 : decode cX4_would 2 = .ok (.invokevirtual 195, 3) := by decide +kernel
theorem dX4_would_5 : decode cX4_would 5 = .ok (.astore_n 3, 1) := by decide +kernel
theorem dX4_would_6 : decode cX4_would 6 = .ok (.iload_n 2, 1) := by decide +kernel
theorem dX4_would_7 : decode cX4_would 7 = .ok (.invokestatic 136, 3) := by decide +kernel
theorem dX4_would_10 : decode cX4_would 10 = .ok (.aload_n 0, 1) := by decide +kernel
theorem dX4_would_11 : decode cX4_would 11 = .ok (.getfield 21, 3) := by decide +kernel
theorem dX4_would_14 : decode cX4_would 14 = .ok (.iload_n 2, 1) := by decide +kernel
theorem dX4_would_15 : decode cX4_would 15 = .ok (.invokevirtual 139, 3) := by decide +kernel
theorem dX4_would_18 : decode cX4_would 18 = .ok (.aload_n 0, 1) := by decide +kernel
theorem dX4_would_19 : decode cX4_would 19 = .ok (.getfield 21, 3) := by decide +kernel
theorem dX4_would_22 : decode cX4_would 22 = .ok (.aload_n 3, 1) := by decide +kernel
theorem dX4_would_23 : decode cX4_would 23 = .ok (.getfield 199, 3) := by decide +kernel
theorem dX4_would_26 : decode cX4_would 26 = .ok (.aload_n 3, 1) := by decide +kernel
theorem dX4_would_27 : decode cX4_would 27 = .ok (.getfield 200, 3) := by decide +kernel
theorem dX4_would_30 : decode cX4_would 30 = .ok (.invokevirtual 142, 3) := by decide +kernel
theorem dX4_would_33 : decode cX4_would 33 = .ok (.ireturn, 1) := by decide +kernel
theorem dX4_best_0 : decode cX4_best 0 = .ok (.iload_n 1, 1) := by decide +kernel
theorem dX4_best_1 : decode cX4_best 1 = .ok (.iload_n 2, 1) := by decide +kernel
theorem dX4_best_2 : decode cX4_best 2 = .ok (.invokestatic 46, 3) := by decide +kernel
theorem dX4_best_5 : decode cX4_best 5 = .ok (.iload_n 3, 1) := by decide +kernel
theorem dX4_best_6 : decode cX4_best 6 = .ok (.iconst 2, 1) := by decide +kernel
theorem dX4_best_7 : decode cX4_best 7 = .ok (.invokestatic 158, 3) := by decide +kernel
theorem dX4_best_10 : decode cX4_best 10 = .ok (.iconst 0, 1) := by decide +kernel
theorem dX4_best_11 : decode cX4_best 11 = .ok (.istore 4, 2) := by decide +kernel
theorem dX4_best_13 : decode cX4_best 13 = .ok (.iconst 0, 1) := by decide +kernel
theorem dX4_best_14 : decode cX4_best 14 = .ok (.istore 5, 2) := by decide +kernel
theorem dX4_best_16 : decode cX4_best 16 = .ok (.iconst (-1), 1) := by decide +kernel
theorem dX4_best_17 : decode cX4_best 17 = .ok (.istore 6, 2) := by decide +kernel
theorem dX4_best_19 : decode cX4_best 19 = .ok (.iconst 0, 1) := by decide +kernel
theorem dX4_best_20 : decode cX4_best 20 = .ok (.istore 7, 2) := by decide +kernel
theorem dX4_best_22 : decode cX4_best 22 = .ok (.iload 7, 2) := by decide +kernel
theorem dX4_best_24 : decode cX4_best 24 = .ok (.bipush 24, 2) := by decide +kernel
theorem dX4_best_26 : decode cX4_best 26 = .ok (.iload_n 2, 1) := by decide +kernel
theorem dX4_best_27 : decode cX4_best 27 = .ok (.isub, 1) := by decide +kernel
theorem dX4_best_28 : decode cX4_best 28 = .ok (.if_icmp .gt 61, 3) := by decide +kernel
theorem dX4_best_31 : decode cX4_best 31 = .ok (.iconst 0, 1) := by decide +kernel
theorem dX4_best_32 : decode cX4_best 32 = .ok (.istore 8, 2) := by decide +kernel
theorem dX4_best_34 : decode cX4_best 34 = .ok (.iload 8, 2) := by decide +kernel
theorem dX4_best_36 : decode cX4_best 36 = .ok (.bipush 24, 2) := by decide +kernel
theorem dX4_best_38 : decode cX4_best 38 = .ok (.iload_n 1, 1) := by decide +kernel
theorem dX4_best_39 : decode cX4_best 39 = .ok (.isub, 1) := by decide +kernel
theorem dX4_best_40 : decode cX4_best 40 = .ok (.if_icmp .gt 43, 3) := by decide +kernel
theorem dX4_best_43 : decode cX4_best 43 = .ok (.aload_n 0, 1) := by decide +kernel
theorem dX4_best_44 : decode cX4_best 44 = .ok (.getfield 12, 3) := by decide +kernel
theorem dX4_best_47 : decode cX4_best 47 = .ok (.iload 8, 2) := by decide +kernel
theorem dX4_best_49 : decode cX4_best 49 = .ok (.iload 7, 2) := by decide +kernel
theorem dX4_best_51 : decode cX4_best 51 = .ok (.iload_n 1, 1) := by decide +kernel
theorem dX4_best_52 : decode cX4_best 52 = .ok (.iload_n 2, 1) := by decide +kernel
theorem dX4_best_53 : decode cX4_best 53 = .ok (.invokevirtual 228, 3) := by decide +kernel
theorem dX4_best_56 : decode cX4_best 56 = .ok (.istore 9, 2) := by decide +kernel
theorem dX4_best_58 : decode cX4_best 58 = .ok (.iload 9, 2) := by decide +kernel
theorem dX4_best_60 : decode cX4_best 60 = .ok (.iload 6, 2) := by decide +kernel
theorem dX4_best_62 : decode cX4_best 62 = .ok (.if_icmp .le 15, 3) := by decide +kernel
theorem dX4_best_65 : decode cX4_best 65 = .ok (.iload 9, 2) := by decide +kernel
theorem dX4_best_67 : decode cX4_best 67 = .ok (.istore 6, 2) := by decide +kernel
theorem dX4_best_69 : decode cX4_best 69 = .ok (.iload 8, 2) := by decide +kernel
theorem dX4_best_71 : decode cX4_best 71 = .ok (.istore 4, 2) := by decide +kernel
theorem dX4_best_73 : decode cX4_best 73 = .ok (.iload 7, 2) := by decide +kernel
theorem dX4_best_75 : decode cX4_best 75 = .ok (.istore 5, 2) := by decide +kernel
theorem dX4_best_77 : decode cX4_best 77 = .ok (.iinc 8 1, 3) := by decide +kernel
theorem dX4_best_80 : decode cX4_best 80 = .ok (.goto (-46), 3) := by decide +kernel
theorem dX4_best_83 : decode cX4_best 83 = .ok (.iinc 7 1, 3) := by decide +kernel
theorem dX4_best_86 : decode cX4_best 86 = .ok (.goto (-64), 3) := by decide +kernel
theorem dX4_best_89 : decode cX4_best 89 = .ok (.iload_n 3, 1) := by decide +kernel
theorem dX4_best_90 : decode cX4_best 90 = .ok (.lookupswitch 32 #[(0, 26), (1, 29)], 26) := by decide +kernel
theorem dX4_best_116 : decode cX4_best 116 = .ok (.iload 4, 2) := by decide +kernel
theorem dX4_best_118 : decode cX4_best 118 = .ok (.ireturn, 1) := by decide +kernel
theorem dX4_best_119 : decode cX4_best 119 = .ok (.iload 5, 2) := by decide +kernel
theorem dX4_best_121 : decode cX4_best 121 = .ok (.ireturn, 1) := by decide +kernel
theorem dX4_best_122 : decode cX4_best 122 = .ok (.iload 6, 2) := by decide +kernel
theorem dX4_best_124 : decode cX4_best 124 = .ok (.ireturn, 1) := by decide +kernel
theorem dX4_advise_0 : decode cX4_advise 0 = .ok (.iconst (-1), 1) := by decide +kernel
theorem dX4_advise_1 : decode cX4_advise 1 = .ok (.istore_n 1, 1) := by decide +kernel
theorem dX4_advise_2 : decode cX4_advise 2 = .ok (.sipush 577, 3) := by decide +kernel
theorem dX4_advise_5 : decode cX4_advise 5 = .ok (.istore_n 2, 1) := by decide +kernel
theorem dX4_advise_6 : decode cX4_advise 6 = .ok (.iconst 0, 1) := by decide +kernel
theorem dX4_advise_7 : decode cX4_advise 7 = .ok (.istore_n 3, 1) := by decide +kernel
theorem dX4_advise_8 : decode cX4_advise 8 = .ok (.iload_n 3, 1) := by decide +kernel
theorem dX4_advise_9 : decode cX4_advise 9 = .ok (.aload_n 0, 1) := by decide +kernel
theorem dX4_advise_10 : decode cX4_advise 10 = .ok (.getfield 12, 3) := by decide +kernel
theorem dX4_advise_13 : decode cX4_advise 13 = .ok (.invokevirtual 63, 3) := by decide +kernel
theorem dX4_advise_16 : decode cX4_advise 16 = .ok (.if_icmp .ge 52, 3) := by decide +kernel
theorem dX4_advise_19 : decode cX4_advise 19 = .ok (.aload_n 0, 1) := by decide +kernel
theorem dX4_advise_20 : decode cX4_advise 20 = .ok (.getfield 12, 3) := by decide +kernel
theorem dX4_advise_23 : decode cX4_advise 23 = .ok (.iload_n 3, 1) := by decide +kernel
theorem dX4_advise_24 : decode cX4_advise 24 = .ok (.invokevirtual 81, 3) := by decide +kernel
theorem dX4_advise_27 : decode cX4_advise 27 = .ok (.astore 4, 2) := by decide +kernel
theorem dX4_advise_29 : decode cX4_advise 29 = .ok (.aload 4, 2) := by decide +kernel
theorem dX4_advise_31 : decode cX4_advise 31 = .ok (.getfield 85, 3) := by decide +kernel
theorem dX4_advise_34 : decode cX4_advise 34 = .ok (.ifCond .ne 6, 3) := by decide +kernel
theorem dX4_advise_37 : decode cX4_advise 37 = .ok (.goto 25, 3) := by decide +kernel
theorem dX4_advise_40 : decode cX4_advise 40 = .ok (.aload_n 0, 1) := by decide +kernel
theorem dX4_advise_41 : decode cX4_advise 41 = .ok (.getfield 12, 3) := by decide +kernel
theorem dX4_advise_44 : decode cX4_advise 44 = .ok (.aload 4, 2) := by decide +kernel
theorem dX4_advise_46 : decode cX4_advise 46 = .ok (.invokevirtual 167, 3) := by decide +kernel
theorem dX4_advise_49 : decode cX4_advise 49 = .ok (.istore 5, 2) := by decide +kernel
theorem dX4_advise_51 : decode cX4_advise 51 = .ok (.iload 5, 2) := by decide +kernel
theorem dX4_advise_53 : decode cX4_advise 53 = .ok (.iload_n 2, 1) := by decide +kernel
theorem dX4_advise_54 : decode cX4_advise 54 = .ok (.if_icmp .ge 8, 3) := by decide +kernel
theorem dX4_advise_57 : decode cX4_advise 57 = .ok (.iload 5, 2) := by decide +kernel
theorem dX4_advise_59 : decode cX4_advise 59 = .ok (.istore_n 2, 1) := by decide +kernel
theorem dX4_advise_60 : decode cX4_advise 60 = .ok (.iload_n 3, 1) := by decide +kernel
theorem dX4_advise_61 : decode cX4_advise 61 = .ok (.istore_n 1, 1) := by decide +kernel
theorem dX4_advise_62 : decode cX4_advise 62 = .ok (.iinc 3 1, 3) := by decide +kernel
theorem dX4_advise_65 : decode cX4_advise 65 = .ok (.goto (-57), 3) := by decide +kernel
theorem dX4_advise_68 : decode cX4_advise 68 = .ok (.iload_n 1, 1) := by decide +kernel
theorem dX4_advise_69 : decode cX4_advise 69 = .ok (.ireturn, 1) := by decide +kernel
theorem dX4_mean_0 : decode cX4_mean 0 = .ok (.aload_n 0, 1) := by decide +kernel
theorem dX4_mean_1 : decode cX4_mean 1 = .ok (.getfield 28, 3) := by decide +kernel
theorem dX4_mean_4 : decode cX4_mean 4 = .ok (.invokevirtual 114, 3) := by decide +kernel
theorem dX4_mean_7 : decode cX4_mean 7 = .ok (.istore_n 1, 1) := by decide +kernel
theorem dX4_mean_8 : decode cX4_mean 8 = .ok (.iload_n 1, 1) := by decide +kernel
theorem dX4_mean_9 : decode cX4_mean 9 = .ok (.ifCond .ne 5, 3) := by decide +kernel
theorem dX4_mean_12 : decode cX4_mean 12 = .ok (.dconst 0, 1) := by decide +kernel
theorem dX4_mean_13 : decode cX4_mean 13 = .ok (.dreturn, 1) := by decide +kernel
theorem dX4_mean_14 : decode cX4_mean 14 = .ok (.iconst 0, 1) := by decide +kernel
theorem dX4_mean_15 : decode cX4_mean 15 = .ok (.istore_n 2, 1) := by decide +kernel
theorem dX4_mean_16 : decode cX4_mean 16 = .ok (.iconst 0, 1) := by decide +kernel
theorem dX4_mean_17 : decode cX4_mean 17 = .ok (.istore_n 3, 1) := by decide +kernel
theorem dX4_mean_18 : decode cX4_mean 18 = .ok (.iload_n 3, 1) := by decide +kernel
theorem dX4_mean_19 : decode cX4_mean 19 = .ok (.iload_n 1, 1) := by decide +kernel
theorem dX4_mean_20 : decode cX4_mean 20 = .ok (.if_icmp .ge 21, 3) := by decide +kernel
theorem dX4_mean_23 : decode cX4_mean 23 = .ok (.iload_n 2, 1) := by decide +kernel
theorem dX4_mean_24 : decode cX4_mean 24 = .ok (.aload_n 0, 1) := by decide +kernel
theorem dX4_mean_25 : decode cX4_mean 25 = .ok (.aload_n 0, 1) := by decide +kernel
theorem dX4_mean_26 : decode cX4_mean 26 = .ok (.iload_n 3, 1) := by decide +kernel
theorem dX4_mean_27 : decode cX4_mean 27 = .ok (.invokevirtual 195, 3) := by decide +kernel
theorem dX4_mean_30 : decode cX4_mean 30 = .ok (.invokevirtual 201, 3) := by decide +kernel
theorem dX4_mean_33 : decode cX4_mean 33 = .ok (.iadd, 1) := by decide +kernel
theorem dX4_mean_34 : decode cX4_mean 34 = .ok (.istore_n 2, 1) := by decide +kernel
theorem dX4_mean_35 : decode cX4_mean 35 = .ok (.iinc 3 1, 3) := by decide +kernel
theorem dX4_mean_38 : decode cX4_mean 38 = .ok (.goto (-20), 3) := by decide +kernel
theorem dX4_mean_41 : decode cX4_mean 41 = .ok (.iload_n 2, 1) := by decide +kernel
theorem dX4_mean_42 : decode cX4_mean 42 = .ok (.i2d, 1) := by decide +kernel
theorem dX4_mean_43 : decode cX4_mean 43 = .ok (.iload_n 1, 1) := by decide +kernel
theorem dX4_mean_44 : decode cX4_mean 44 = .ok (.i2d, 1) := by decide +kernel
theorem dX4_mean_45 : decode cX4_mean 45 = .ok (.ddiv, 1) := by decide +kernel
theorem dX4_mean_46 : decode cX4_mean 46 = .ok (.dreturn, 1) := by decide +kernel
theorem dX4_digest_0 : decode cX4_digest 0 = .ok (.ldc2_w 232, 3) := by decide +kernel
theorem dX4_digest_3 : decode cX4_digest 3 = .ok (.lstore_n 1, 1) := by decide +kernel
theorem dX4_digest_4 : decode cX4_digest 4 = .ok (.iconst 0, 1) := by decide +kernel
theorem dX4_digest_5 : decode cX4_digest 5 = .ok (.istore_n 3, 1) := by decide +kernel
theorem dX4_digest_6 : decode cX4_digest 6 = .ok (.iload_n 3, 1) := by decide +kernel
theorem dX4_digest_7 : decode cX4_digest 7 = .ok (.bipush 10, 2) := by decide +kernel
theorem dX4_digest_9 : decode cX4_digest 9 = .ok (.if_icmp .gt 22, 3) := by decide +kernel
theorem dX4_digest_12 : decode cX4_digest 12 = .ok (.lload_n 1, 1) := by decide +kernel
theorem dX4_digest_13 : decode cX4_digest 13 = .ok (.ldc2_w 234, 3) := by decide +kernel
theorem dX4_digest_16 : decode cX4_digest 16 = .ok (.lmul, 1) := by decide +kernel
theorem dX4_digest_17 : decode cX4_digest 17 = .ok (.aload_n 0, 1) := by decide +kernel
theorem dX4_digest_18 : decode cX4_digest 18 = .ok (.iload_n 3, 1) := by decide +kernel
theorem dX4_digest_19 : decode cX4_digest 19 = .ok (.invokevirtual 236, 3) := by decide +kernel
theorem dX4_digest_22 : decode cX4_digest 22 = .ok (.i2l, 1) := by decide +kernel
theorem dX4_digest_23 : decode cX4_digest 23 = .ok (.ladd, 1) := by decide +kernel
theorem dX4_digest_24 : decode cX4_digest 24 = .ok (.lstore_n 1, 1) := by decide +kernel
theorem dX4_digest_25 : decode cX4_digest 25 = .ok (.iinc 3 1, 3) := by decide +kernel
theorem dX4_digest_28 : decode cX4_digest 28 = .ok (.goto (-22), 3) := by decide +kernel
theorem dX4_digest_31 : decode cX4_digest 31 = .ok (.iconst 0, 1) := by decide +kernel
theorem dX4_digest_32 : decode cX4_digest 32 = .ok (.istore_n 3, 1) := by decide +kernel
theorem dX4_digest_33 : decode cX4_digest 33 = .ok (.iload_n 3, 1) := by decide +kernel
theorem dX4_digest_34 : decode cX4_digest 34 = .ok (.aload_n 0, 1) := by decide +kernel
theorem dX4_digest_35 : decode cX4_digest 35 = .ok (.getfield 12, 3) := by decide +kernel
theorem dX4_digest_38 : decode cX4_digest 38 = .ok (.invokevirtual 63, 3) := by decide +kernel
theorem dX4_digest_41 : decode cX4_digest 41 = .ok (.if_icmp .ge 40, 3) := by decide +kernel
theorem dX4_digest_44 : decode cX4_digest 44 = .ok (.iconst 0, 1) := by decide +kernel
theorem dX4_digest_45 : decode cX4_digest 45 = .ok (.istore 4, 2) := by decide +kernel
theorem dX4_digest_47 : decode cX4_digest 47 = .ok (.iload 4, 2) := by decide +kernel
theorem dX4_digest_49 : decode cX4_digest 49 = .ok (.bipush 8, 2) := by decide +kernel
theorem dX4_digest_51 : decode cX4_digest 51 = .ok (.if_icmp .gt 24, 3) := by decide +kernel
theorem dX4_digest_54 : decode cX4_digest 54 = .ok (.lload_n 1, 1) := by decide +kernel
theorem dX4_digest_55 : decode cX4_digest 55 = .ok (.ldc2_w 234, 3) := by decide +kernel
theorem dX4_digest_58 : decode cX4_digest 58 = .ok (.lmul, 1) := by decide +kernel
theorem dX4_digest_59 : decode cX4_digest 59 = .ok (.aload_n 0, 1) := by decide +kernel
theorem dX4_digest_60 : decode cX4_digest 60 = .ok (.iload_n 3, 1) := by decide +kernel
theorem dX4_digest_61 : decode cX4_digest 61 = .ok (.iload 4, 2) := by decide +kernel
theorem dX4_digest_63 : decode cX4_digest 63 = .ok (.invokevirtual 239, 3) := by decide +kernel
theorem dX4_digest_66 : decode cX4_digest 66 = .ok (.i2l, 1) := by decide +kernel
theorem dX4_digest_67 : decode cX4_digest 67 = .ok (.ladd, 1) := by decide +kernel
theorem dX4_digest_68 : decode cX4_digest 68 = .ok (.lstore_n 1, 1) := by decide +kernel
theorem dX4_digest_69 : decode cX4_digest 69 = .ok (.iinc 4 1, 3) := by decide +kernel
theorem dX4_digest_72 : decode cX4_digest 72 = .ok (.goto (-25), 3) := by decide +kernel
theorem dX4_digest_75 : decode cX4_digest 75 = .ok (.iinc 3 1, 3) := by decide +kernel
theorem dX4_digest_78 : decode cX4_digest 78 = .ok (.goto (-45), 3) := by decide +kernel
theorem dX4_digest_81 : decode cX4_digest 81 = .ok (.iconst 0, 1) := by decide +kernel
theorem dX4_digest_82 : decode cX4_digest 82 = .ok (.istore_n 3, 1) := by decide +kernel
theorem dX4_digest_83 : decode cX4_digest 83 = .ok (.iload_n 3, 1) := by decide +kernel
theorem dX4_digest_84 : decode cX4_digest 84 = .ok (.aload_n 0, 1) := by decide +kernel
theorem dX4_digest_85 : decode cX4_digest 85 = .ok (.getfield 28, 3) := by decide +kernel
theorem dX4_digest_88 : decode cX4_digest 88 = .ok (.invokevirtual 114, 3) := by decide +kernel
theorem dX4_digest_91 : decode cX4_digest 91 = .ok (.if_icmp .ge 39, 3) := by decide +kernel
theorem dX4_digest_94 : decode cX4_digest 94 = .ok (.iconst 0, 1) := by decide +kernel
theorem dX4_digest_95 : decode cX4_digest 95 = .ok (.istore 4, 2) := by decide +kernel
theorem dX4_digest_97 : decode cX4_digest 97 = .ok (.iload 4, 2) := by decide +kernel
theorem dX4_digest_99 : decode cX4_digest 99 = .ok (.iconst 3, 1) := by decide +kernel
theorem dX4_digest_100 : decode cX4_digest 100 = .ok (.if_icmp .gt 24, 3) := by decide +kernel
theorem dX4_digest_103 : decode cX4_digest 103 = .ok (.lload_n 1, 1) := by decide +kernel
theorem dX4_digest_104 : decode cX4_digest 104 = .ok (.ldc2_w 234, 3) := by decide +kernel
theorem dX4_digest_107 : decode cX4_digest 107 = .ok (.lmul, 1) := by decide +kernel
theorem dX4_digest_108 : decode cX4_digest 108 = .ok (.aload_n 0, 1) := by decide +kernel
theorem dX4_digest_109 : decode cX4_digest 109 = .ok (.iload_n 3, 1) := by decide +kernel
theorem dX4_digest_110 : decode cX4_digest 110 = .ok (.iload 4, 2) := by decide +kernel
theorem dX4_digest_112 : decode cX4_digest 112 = .ok (.invokevirtual 242, 3) := by decide +kernel
theorem dX4_digest_115 : decode cX4_digest 115 = .ok (.i2l, 1) := by decide +kernel
theorem dX4_digest_116 : decode cX4_digest 116 = .ok (.ladd, 1) := by decide +kernel
theorem dX4_digest_117 : decode cX4_digest 117 = .ok (.lstore_n 1, 1) := by decide +kernel
theorem dX4_digest_118 : decode cX4_digest 118 = .ok (.iinc 4 1, 3) := by decide +kernel
theorem dX4_digest_121 : decode cX4_digest 121 = .ok (.goto (-24), 3) := by decide +kernel
theorem dX4_digest_124 : decode cX4_digest 124 = .ok (.iinc 3 1, 3) := by decide +kernel
theorem dX4_digest_127 : decode cX4_digest 127 = .ok (.goto (-44), 3) := by decide +kernel
theorem dX4_digest_130 : decode cX4_digest 130 = .ok (.iconst 0, 1) := by decide +kernel
theorem dX4_digest_131 : decode cX4_digest 131 = .ok (.istore_n 3, 1) := by decide +kernel
theorem dX4_digest_132 : decode cX4_digest 132 = .ok (.iload_n 3, 1) := by decide +kernel
theorem dX4_digest_133 : decode cX4_digest 133 = .ok (.bipush 24, 2) := by decide +kernel
theorem dX4_digest_135 : decode cX4_digest 135 = .ok (.if_icmp .ge 16, 3) := by decide +kernel
theorem dX4_digest_138 : decode cX4_digest 138 = .ok (.aload_n 0, 1) := by decide +kernel
theorem dX4_digest_139 : decode cX4_digest 139 = .ok (.lload_n 1, 1) := by decide +kernel
theorem dX4_digest_140 : decode cX4_digest 140 = .ok (.iload_n 3, 1) := by decide +kernel
theorem dX4_digest_141 : decode cX4_digest 141 = .ok (.invokevirtual 245, 3) := by decide +kernel
theorem dX4_digest_144 : decode cX4_digest 144 = .ok (.lstore_n 1, 1) := by decide +kernel
theorem dX4_digest_145 : decode cX4_digest 145 = .ok (.iinc 3 1, 3) := by decide +kernel
theorem dX4_digest_148 : decode cX4_digest 148 = .ok (.goto (-16), 3) := by decide +kernel
theorem dX4_digest_151 : decode cX4_digest 151 = .ok (.lload_n 1, 1) := by decide +kernel
theorem dX4_digest_152 : decode cX4_digest 152 = .ok (.lreturn, 1) := by decide +kernel
theorem dX4_digestOfColumn_0 : decode cX4_digestOfColumn 0 = .ok (.lload_n 1, 1) := by decide +kernel
theorem dX4_digestOfColumn_1 : decode cX4_digestOfColumn 1 = .ok (.lstore 4, 2) := by decide +kernel
theorem dX4_digestOfColumn_3 : decode cX4_digestOfColumn 3 = .ok (.iconst 0, 1) := by decide +kernel
theorem dX4_digestOfColumn_4 : decode cX4_digestOfColumn 4 = .ok (.istore 6, 2) := by decide +kernel
theorem dX4_digestOfColumn_6 : decode cX4_digestOfColumn 6 = .ok (.iload 6, 2) := by decide +kernel
theorem dX4_digestOfColumn_8 : decode cX4_digestOfColumn 8 = .ok (.iconst 3, 1) := by decide +kernel
theorem dX4_digestOfColumn_9 : decode cX4_digestOfColumn 9 = .ok (.if_icmp .gt 26, 3) := by decide +kernel
theorem dX4_digestOfColumn_12 : decode cX4_digestOfColumn 12 = .ok (.lload 4, 2) := by decide +kernel
theorem dX4_digestOfColumn_14 : decode cX4_digestOfColumn 14 = .ok (.ldc2_w 234, 3) := by decide +kernel
theorem dX4_digestOfColumn_17 : decode cX4_digestOfColumn 17 = .ok (.lmul, 1) := by decide +kernel
theorem dX4_digestOfColumn_18 : decode cX4_digestOfColumn 18 = .ok (.aload_n 0, 1) := by decide +kernel
theorem dX4_digestOfColumn_19 : decode cX4_digestOfColumn 19 = .ok (.iload_n 3, 1) := by decide +kernel
theorem dX4_digestOfColumn_20 : decode cX4_digestOfColumn 20 = .ok (.iload 6, 2) := by decide +kernel
theorem dX4_digestOfColumn_22 : decode cX4_digestOfColumn 22 = .ok (.invokevirtual 249, 3) := by decide +kernel
theorem dX4_digestOfColumn_25 : decode cX4_digestOfColumn 25 = .ok (.i2l, 1) := by decide +kernel
theorem dX4_digestOfColumn_26 : decode cX4_digestOfColumn 26 = .ok (.ladd, 1) := by decide +kernel
theorem dX4_digestOfColumn_27 : decode cX4_digestOfColumn 27 = .ok (.lstore 4, 2) := by decide +kernel
theorem dX4_digestOfColumn_29 : decode cX4_digestOfColumn 29 = .ok (.iinc 6 1, 3) := by decide +kernel
theorem dX4_digestOfColumn_32 : decode cX4_digestOfColumn 32 = .ok (.goto (-26), 3) := by decide +kernel
theorem dX4_digestOfColumn_35 : decode cX4_digestOfColumn 35 = .ok (.iconst 0, 1) := by decide +kernel
theorem dX4_digestOfColumn_36 : decode cX4_digestOfColumn 36 = .ok (.istore 6, 2) := by decide +kernel
theorem dX4_digestOfColumn_38 : decode cX4_digestOfColumn 38 = .ok (.iload 6, 2) := by decide +kernel
theorem dX4_digestOfColumn_40 : decode cX4_digestOfColumn 40 = .ok (.bipush 24, 2) := by decide +kernel
theorem dX4_digestOfColumn_42 : decode cX4_digestOfColumn 42 = .ok (.if_icmp .ge 43, 3) := by decide +kernel
theorem dX4_digestOfColumn_45 : decode cX4_digestOfColumn 45 = .ok (.iconst 0, 1) := by decide +kernel
theorem dX4_digestOfColumn_46 : decode cX4_digestOfColumn 46 = .ok (.istore 7, 2) := by decide +kernel
theorem dX4_digestOfColumn_48 : decode cX4_digestOfColumn 48 = .ok (.iload 7, 2) := by decide +kernel
theorem dX4_digestOfColumn_50 : decode cX4_digestOfColumn 50 = .ok (.iconst 2, 1) := by decide +kernel
theorem dX4_digestOfColumn_51 : decode cX4_digestOfColumn 51 = .ok (.if_icmp .gt 28, 3) := by decide +kernel
theorem dX4_digestOfColumn_54 : decode cX4_digestOfColumn 54 = .ok (.lload 4, 2) := by decide +kernel
theorem dX4_digestOfColumn_56 : decode cX4_digestOfColumn 56 = .ok (.ldc2_w 234, 3) := by decide +kernel
theorem dX4_digestOfColumn_59 : decode cX4_digestOfColumn 59 = .ok (.lmul, 1) := by decide +kernel
theorem dX4_digestOfColumn_60 : decode cX4_digestOfColumn 60 = .ok (.aload_n 0, 1) := by decide +kernel
theorem dX4_digestOfColumn_61 : decode cX4_digestOfColumn 61 = .ok (.iload_n 3, 1) := by decide +kernel
theorem dX4_digestOfColumn_62 : decode cX4_digestOfColumn 62 = .ok (.iload 6, 2) := by decide +kernel
theorem dX4_digestOfColumn_64 : decode cX4_digestOfColumn 64 = .ok (.iload 7, 2) := by decide +kernel
theorem dX4_digestOfColumn_66 : decode cX4_digestOfColumn 66 = .ok (.invokevirtual 252, 3) := by decide +kernel
theorem dX4_digestOfColumn_69 : decode cX4_digestOfColumn 69 = .ok (.i2l, 1) := by decide +kernel
theorem dX4_digestOfColumn_70 : decode cX4_digestOfColumn 70 = .ok (.ladd, 1) := by decide +kernel
theorem dX4_digestOfColumn_71 : decode cX4_digestOfColumn 71 = .ok (.lstore 4, 2) := by decide +kernel
theorem dX4_digestOfColumn_73 : decode cX4_digestOfColumn 73 = .ok (.iinc 7 1, 3) := by decide +kernel
theorem dX4_digestOfColumn_76 : decode cX4_digestOfColumn 76 = .ok (.goto (-28), 3) := by decide +kernel
theorem dX4_digestOfColumn_79 : decode cX4_digestOfColumn 79 = .ok (.iinc 6 1, 3) := by decide +kernel
theorem dX4_digestOfColumn_82 : decode cX4_digestOfColumn 82 = .ok (.goto (-44), 3) := by decide +kernel
theorem dX4_digestOfColumn_85 : decode cX4_digestOfColumn 85 = .ok (.lload 4, 2) := by decide +kernel
theorem dX4_digestOfColumn_87 : decode cX4_digestOfColumn 87 = .ok (.lreturn, 1) := by decide +kernel
theorem dX4_numberedStall_0 : decode cX4_numberedStall 0 = .ok (.iload_n 1, 1) := by decide +kernel
theorem dX4_numberedStall_1 : decode cX4_numberedStall 1 = .ok (.ifCond .lt 14, 3) := by decide +kernel
theorem dX4_numberedStall_4 : decode cX4_numberedStall 4 = .ok (.iload_n 1, 1) := by decide +kernel
theorem dX4_numberedStall_5 : decode cX4_numberedStall 5 = .ok (.aload_n 0, 1) := by decide +kernel
theorem dX4_numberedStall_6 : decode cX4_numberedStall 6 = .ok (.getfield 28, 3) := by decide +kernel
theorem dX4_numberedStall_9 : decode cX4_numberedStall 9 = .ok (.invokevirtual 114, 3) := by decide +kernel
theorem dX4_numberedStall_12 : decode cX4_numberedStall 12 = .ok (.if_icmp .lt 13, 3) := by decide +kernel
theorem dX4_numberedStall_15 : decode cX4_numberedStall 15 = .ok (.new 178, 3) := by decide +kernel
theorem dX4_numberedStall_18 : decode cX4_numberedStall 18 = .ok (.dup, 1) := by decide +kernel
theorem dX4_numberedStall_19 : decode cX4_numberedStall 19 = .ok (.ldc 255, 2) := by decide +kernel
theorem dX4_numberedStall_21 : decode cX4_numberedStall 21 = .ok (.invokespecial 182, 3) := by decide +kernel
theorem dX4_numberedStall_24 : decode cX4_numberedStall 24 = .ok (.athrow, 1) := by decide +kernel
theorem dX4_numberedStall_25 : decode cX4_numberedStall 25 = .ok (.aload_n 0, 1) := by decide +kernel
theorem dX4_numberedStall_26 : decode cX4_numberedStall 26 = .ok (.getfield 28, 3) := by decide +kernel
theorem dX4_numberedStall_29 : decode cX4_numberedStall 29 = .ok (.iload_n 1, 1) := by decide +kernel
theorem dX4_numberedStall_30 : decode cX4_numberedStall 30 = .ok (.invokevirtual 257, 3) := by decide +kernel
theorem dX4_numberedStall_33 : decode cX4_numberedStall 33 = .ok (.checkcast 123, 3) := by decide +kernel
theorem dX4_numberedStall_36 : decode cX4_numberedStall 36 = .ok (.areturn, 1) := by decide +kernel
theorem dX4_hasStallAt_0 : decode cX4_hasStallAt 0 = .ok (.iconst 0, 1) := by decide +kernel
theorem dX4_hasStallAt_1 : decode cX4_hasStallAt 1 = .ok (.istore_n 3, 1) := by decide +kernel
theorem dX4_hasStallAt_2 : decode cX4_hasStallAt 2 = .ok (.iload_n 3, 1) := by decide +kernel
theorem dX4_hasStallAt_3 : decode cX4_hasStallAt 3 = .ok (.aload_n 0, 1) := by decide +kernel
theorem dX4_hasStallAt_4 : decode cX4_hasStallAt 4 = .ok (.getfield 28, 3) := by decide +kernel
theorem dX4_hasStallAt_7 : decode cX4_hasStallAt 7 = .ok (.invokevirtual 114, 3) := by decide +kernel
theorem dX4_hasStallAt_10 : decode cX4_hasStallAt 10 = .ok (.if_icmp .ge 42, 3) := by decide +kernel
theorem dX4_hasStallAt_13 : decode cX4_hasStallAt 13 = .ok (.aload_n 0, 1) := by decide +kernel
theorem dX4_hasStallAt_14 : decode cX4_hasStallAt 14 = .ok (.getfield 28, 3) := by decide +kernel
theorem dX4_hasStallAt_17 : decode cX4_hasStallAt 17 = .ok (.iload_n 3, 1) := by decide +kernel
theorem dX4_hasStallAt_18 : decode cX4_hasStallAt 18 = .ok (.invokevirtual 257, 3) := by decide +kernel
theorem dX4_hasStallAt_21 : decode cX4_hasStallAt 21 = .ok (.checkcast 123, 3) := by decide +kernel
theorem dX4_hasStallAt_24 : decode cX4_hasStallAt 24 = .ok (.astore 4, 2) := by decide +kernel
theorem dX4_hasStallAt_26 : decode cX4_hasStallAt 26 = .ok (.aload 4, 2) := by decide +kernel
theorem dX4_hasStallAt_28 : decode cX4_hasStallAt 28 = .ok (.getfield 199, 3) := by decide +kernel
theorem dX4_hasStallAt_31 : decode cX4_hasStallAt 31 = .ok (.iload_n 1, 1) := by decide +kernel
theorem dX4_hasStallAt_32 : decode cX4_hasStallAt 32 = .ok (.if_icmp .ne 14, 3) := by decide +kernel
theorem dX4_hasStallAt_35 : decode cX4_hasStallAt 35 = .ok (.aload 4, 2) := by decide +kernel
theorem dX4_hasStallAt_37 : decode cX4_hasStallAt 37 = .ok (.getfield 200, 3) := by decide +kernel
theorem dX4_hasStallAt_40 : decode cX4_hasStallAt 40 = .ok (.iload_n 2, 1) := by decide +kernel
theorem dX4_hasStallAt_41 : decode cX4_hasStallAt 41 = .ok (.if_icmp .ne 5, 3) := by decide +kernel
theorem dX4_hasStallAt_44 : decode cX4_hasStallAt 44 = .ok (.iconst 1, 1) := by decide +kernel
theorem dX4_hasStallAt_45 : decode cX4_hasStallAt 45 = .ok (.ireturn, 1) := by decide +kernel
theorem dX4_hasStallAt_46 : decode cX4_hasStallAt 46 = .ok (.iinc 3 1, 3) := by decide +kernel
theorem dX4_hasStallAt_49 : decode cX4_hasStallAt 49 = .ok (.goto (-47), 3) := by decide +kernel
theorem dX4_hasStallAt_52 : decode cX4_hasStallAt 52 = .ok (.iconst 0, 1) := by decide +kernel
theorem dX4_hasStallAt_53 : decode cX4_hasStallAt 53 = .ok (.ireturn, 1) := by decide +kernel
theorem dX4_stallsNotCovered_0 : decode cX4_stallsNotCovered 0 = .ok (.iconst 0, 1) := by decide +kernel
theorem dX4_stallsNotCovered_1 : decode cX4_stallsNotCovered 1 = .ok (.istore_n 1, 1) := by decide +kernel
theorem dX4_stallsNotCovered_2 : decode cX4_stallsNotCovered 2 = .ok (.iconst 0, 1) := by decide +kernel
theorem dX4_stallsNotCovered_3 : decode cX4_stallsNotCovered 3 = .ok (.istore_n 2, 1) := by decide +kernel
theorem dX4_stallsNotCovered_4 : decode cX4_stallsNotCovered 4 = .ok (.iload_n 2, 1) := by decide +kernel
theorem dX4_stallsNotCovered_5 : decode cX4_stallsNotCovered 5 = .ok (.aload_n 0, 1) := by decide +kernel
theorem dX4_stallsNotCovered_6 : decode cX4_stallsNotCovered 6 = .ok (.getfield 28, 3) := by decide +kernel
theorem dX4_stallsNotCovered_9 : decode cX4_stallsNotCovered 9 = .ok (.invokevirtual 114, 3) := by decide +kernel
theorem dX4_stallsNotCovered_12 : decode cX4_stallsNotCovered 12 = .ok (.if_icmp .ge 42, 3) := by decide +kernel
theorem dX4_stallsNotCovered_15 : decode cX4_stallsNotCovered 15 = .ok (.aload_n 0, 1) := by decide +kernel
theorem dX4_stallsNotCovered_16 : decode cX4_stallsNotCovered 16 = .ok (.getfield 28, 3) := by decide +kernel
theorem dX4_stallsNotCovered_19 : decode cX4_stallsNotCovered 19 = .ok (.iload_n 2, 1) := by decide +kernel
theorem dX4_stallsNotCovered_20 : decode cX4_stallsNotCovered 20 = .ok (.invokevirtual 257, 3) := by decide +kernel
theorem dX4_stallsNotCovered_23 : decode cX4_stallsNotCovered 23 = .ok (.checkcast 123, 3) := by decide +kernel
theorem dX4_stallsNotCovered_26 : decode cX4_stallsNotCovered 26 = .ok (.astore_n 3, 1) := by decide +kernel
theorem dX4_stallsNotCovered_27 : decode cX4_stallsNotCovered 27 = .ok (.aload_n 0, 1) := by decide +kernel
theorem dX4_stallsNotCovered_28 : decode cX4_stallsNotCovered 28 = .ok (.getfield 12, 3) := by decide +kernel
theorem dX4_stallsNotCovered_31 : decode cX4_stallsNotCovered 31 = .ok (.aload_n 3, 1) := by decide +kernel
theorem dX4_stallsNotCovered_32 : decode cX4_stallsNotCovered 32 = .ok (.getfield 199, 3) := by decide +kernel
theorem dX4_stallsNotCovered_35 : decode cX4_stallsNotCovered 35 = .ok (.aload_n 3, 1) := by decide +kernel
theorem dX4_stallsNotCovered_36 : decode cX4_stallsNotCovered 36 = .ok (.getfield 200, 3) := by decide +kernel
theorem dX4_stallsNotCovered_39 : decode cX4_stallsNotCovered 39 = .ok (.invokevirtual 171, 3) := by decide +kernel
theorem dX4_stallsNotCovered_42 : decode cX4_stallsNotCovered 42 = .ok (.ifCond .ne 6, 3) := by decide +kernel
theorem dX4_stallsNotCovered_45 : decode cX4_stallsNotCovered 45 = .ok (.iinc 1 1, 3) := by decide +kernel
theorem dX4_stallsNotCovered_48 : decode cX4_stallsNotCovered 48 = .ok (.iinc 2 1, 3) := by decide +kernel
theorem dX4_stallsNotCovered_51 : decode cX4_stallsNotCovered 51 = .ok (.goto (-47), 3) := by decide +kernel
theorem dX4_stallsNotCovered_54 : decode cX4_stallsNotCovered 54 = .ok (.iload_n 1, 1) := by decide +kernel
theorem dX4_stallsNotCovered_55 : decode cX4_stallsNotCovered 55 = .ok (.ireturn, 1) := by decide +kernel
theorem dX4_gotBy_0 : decode cX4_gotBy 0 = .ok (.aload_n 0, 1) := by decide +kernel
theorem dX4_gotBy_1 : decode cX4_gotBy 1 = .ok (.aload_n 1, 1) := by decide +kernel
theorem dX4_gotBy_2 : decode cX4_gotBy 2 = .ok (.getfield 199, 3) := by decide +kernel
theorem dX4_gotBy_5 : decode cX4_gotBy 5 = .ok (.aload_n 1, 1) := by decide +kernel
theorem dX4_gotBy_6 : decode cX4_gotBy 6 = .ok (.getfield 200, 3) := by decide +kernel
theorem dX4_gotBy_9 : decode cX4_gotBy 9 = .ok (.invokevirtual 125, 3) := by decide +kernel
theorem dX4_gotBy_12 : decode cX4_gotBy 12 = .ok (.aload_n 1, 1) := by decide +kernel
theorem dX4_gotBy_13 : decode cX4_gotBy 13 = .ok (.getfield 261, 3) := by decide +kernel
theorem dX4_gotBy_16 : decode cX4_gotBy 16 = .ok (.isub, 1) := by decide +kernel
theorem dX4_gotBy_17 : decode cX4_gotBy 17 = .ok (.ireturn, 1) := by decide +kernel
theorem dX4_groundAt_0 : decode cX4_groundAt 0 = .ok (.iload_n 1, 1) := by decide +kernel
theorem dX4_groundAt_1 : decode cX4_groundAt 1 = .ok (.iload_n 2, 1) := by decide +kernel
theorem dX4_groundAt_2 : decode cX4_groundAt 2 = .ok (.invokestatic 264, 3) := by decide +kernel
theorem dX4_groundAt_5 : decode cX4_groundAt 5 = .ok (.ifCond .eq 17, 3) := by decide +kernel
theorem dX4_groundAt_8 : decode cX4_groundAt 8 = .ok (.aload_n 0, 1) := by decide +kernel
theorem dX4_groundAt_9 : decode cX4_groundAt 9 = .ok (.getfield 32, 3) := by decide +kernel
theorem dX4_groundAt_12 : decode cX4_groundAt 12 = .ok (.iload_n 2, 1) := by decide +kernel
theorem dX4_groundAt_13 : decode cX4_groundAt 13 = .ok (.bipush 24, 2) := by decide +kernel
theorem dX4_groundAt_15 : decode cX4_groundAt 15 = .ok (.imul, 1) := by decide +kernel
theorem dX4_groundAt_16 : decode cX4_groundAt 16 = .ok (.iload_n 1, 1) := by decide +kernel
theorem dX4_groundAt_17 : decode cX4_groundAt 17 = .ok (.iadd, 1) := by decide +kernel
theorem dX4_groundAt_18 : decode cX4_groundAt 18 = .ok (.iaload, 1) := by decide +kernel
theorem dX4_groundAt_19 : decode cX4_groundAt 19 = .ok (.goto 4, 3) := by decide +kernel
theorem dX4_groundAt_22 : decode cX4_groundAt 22 = .ok (.iconst 0, 1) := by decide +kernel
theorem dX4_groundAt_23 : decode cX4_groundAt 23 = .ok (.ireturn, 1) := by decide +kernel
theorem dX4_isCell_0 : decode cX4_isCell 0 = .ok (.iload_n 0, 1) := by decide +kernel
theorem dX4_isCell_1 : decode cX4_isCell 1 = .ok (.ifCond .lt 23, 3) := by decide +kernel
theorem dX4_isCell_4 : decode cX4_isCell 4 = .ok (.iload_n 0, 1) := by decide +kernel
theorem dX4_isCell_5 : decode cX4_isCell 5 = .ok (.bipush 24, 2) := by decide +kernel
theorem dX4_isCell_7 : decode cX4_isCell 7 = .ok (.if_icmp .ge 17, 3) := by decide +kernel
theorem dX4_isCell_10 : decode cX4_isCell 10 = .ok (.iload_n 1, 1) := by decide +kernel
theorem dX4_isCell_11 : decode cX4_isCell 11 = .ok (.ifCond .lt 13, 3) := by decide +kernel
theorem dX4_isCell_14 : decode cX4_isCell 14 = .ok (.iload_n 1, 1) := by decide +kernel
theorem dX4_isCell_15 : decode cX4_isCell 15 = .ok (.bipush 24, 2) := by decide +kernel
theorem dX4_isCell_17 : decode cX4_isCell 17 = .ok (.if_icmp .ge 7, 3) := by decide +kernel
theorem dX4_isCell_20 : decode cX4_isCell 20 = .ok (.iconst 1, 1) := by decide +kernel
theorem dX4_isCell_21 : decode cX4_isCell 21 = .ok (.goto 4, 3) := by decide +kernel
theorem dX4_isCell_24 : decode cX4_isCell 24 = .ok (.iconst 0, 1) := by decide +kernel
theorem dX4_isCell_25 : decode cX4_isCell 25 = .ok (.ireturn, 1) := by decide +kernel
theorem dX4_requireCell_0 : decode cX4_requireCell 0 = .ok (.iload_n 0, 1) := by decide +kernel
theorem dX4_requireCell_1 : decode cX4_requireCell 1 = .ok (.iload_n 1, 1) := by decide +kernel
theorem dX4_requireCell_2 : decode cX4_requireCell 2 = .ok (.invokestatic 264, 3) := by decide +kernel
theorem dX4_requireCell_5 : decode cX4_requireCell 5 = .ok (.ifCond .ne 14, 3) := by decide +kernel
theorem dX4_requireCell_8 : decode cX4_requireCell 8 = .ok (.new 178, 3) := by decide +kernel
theorem dX4_requireCell_11 : decode cX4_requireCell 11 = .ok (.dup, 1) := by decide +kernel
theorem dX4_requireCell_12 : decode cX4_requireCell 12 = .ok (.ldc_w 267, 3) := by decide +kernel
theorem dX4_requireCell_15 : decode cX4_requireCell 15 = .ok (.invokespecial 182, 3) := by decide +kernel
theorem dX4_requireCell_18 : decode cX4_requireCell 18 = .ok (.athrow, 1) := by decide +kernel
theorem dX4_requireCell_19 : decode cX4_requireCell 19 = .ok (.return_, 1) := by decide +kernel
theorem dX4_requireExtent_0 : decode cX4_requireExtent 0 = .ok (.iload_n 0, 1) := by decide +kernel
theorem dX4_requireExtent_1 : decode cX4_requireExtent 1 = .ok (.iconst 1, 1) := by decide +kernel
theorem dX4_requireExtent_2 : decode cX4_requireExtent 2 = .ok (.if_icmp .lt 20, 3) := by decide +kernel
theorem dX4_requireExtent_5 : decode cX4_requireExtent 5 = .ok (.iload_n 0, 1) := by decide +kernel
theorem dX4_requireExtent_6 : decode cX4_requireExtent 6 = .ok (.bipush 24, 2) := by decide +kernel
theorem dX4_requireExtent_8 : decode cX4_requireExtent 8 = .ok (.if_icmp .gt 14, 3) := by decide +kernel
theorem dX4_requireExtent_11 : decode cX4_requireExtent 11 = .ok (.iload_n 1, 1) := by decide +kernel
theorem dX4_requireExtent_12 : decode cX4_requireExtent 12 = .ok (.iconst 1, 1) := by decide +kernel
theorem dX4_requireExtent_13 : decode cX4_requireExtent 13 = .ok (.if_icmp .lt 9, 3) := by decide +kernel
theorem dX4_requireExtent_16 : decode cX4_requireExtent 16 = .ok (.iload_n 1, 1) := by decide +kernel
theorem dX4_requireExtent_17 : decode cX4_requireExtent 17 = .ok (.bipush 24, 2) := by decide +kernel
theorem dX4_requireExtent_19 : decode cX4_requireExtent 19 = .ok (.if_icmp .le 14, 3) := by decide +kernel
theorem dX4_requireExtent_22 : decode cX4_requireExtent 22 = .ok (.new 50, 3) := by decide +kernel
theorem dX4_requireExtent_25 : decode cX4_requireExtent 25 = .ok (.dup, 1) := by decide +kernel
theorem dX4_requireExtent_26 : decode cX4_requireExtent 26 = .ok (.ldc_w 269, 3) := by decide +kernel
theorem dX4_requireExtent_29 : decode cX4_requireExtent 29 = .ok (.invokespecial 54, 3) := by decide +kernel
theorem dX4_requireExtent_32 : decode cX4_requireExtent 32 = .ok (.athrow, 1) := by decide +kernel
theorem dX4_requireExtent_33 : decode cX4_requireExtent 33 = .ok (.return_, 1) := by decide +kernel
theorem dX4_requireRoomInSquare_0 : decode cX4_requireRoomInSquare 0 = .ok (.iload_n 0, 1) := by decide +kernel
theorem dX4_requireRoomInSquare_1 : decode cX4_requireRoomInSquare 1 = .ok (.ifCond .lt 23, 3) := by decide +kernel
theorem dX4_requireRoomInSquare_4 : decode cX4_requireRoomInSquare 4 = .ok (.iload_n 1, 1) := by decide +kernel
theorem dX4_requireRoomInSquare_5 : decode cX4_requireRoomInSquare 5 = .ok (.ifCond .lt 19, 3) := by decide +kernel
theorem dX4_requireRoomInSquare_8 : decode cX4_requireRoomInSquare 8 = .ok (.iload_n 0, 1) := by decide +kernel
theorem dX4_requireRoomInSquare_9 : decode cX4_requireRoomInSquare 9 = .ok (.bipush 24, 2) := by decide +kernel
theorem dX4_requireRoomInSquare_11 : decode cX4_requireRoomInSquare 11 = .ok (.iload_n 2, 1) := by decide +kernel
theorem dX4_requireRoomInSquare_12 : decode cX4_requireRoomInSquare 12 = .ok (.isub, 1) := by decide +kernel
theorem dX4_requireRoomInSquare_13 : decode cX4_requireRoomInSquare 13 = .ok (.if_icmp .gt 11, 3) := by decide +kernel
theorem dX4_requireRoomInSquare_16 : decode cX4_requireRoomInSquare 16 = .ok (.iload_n 1, 1) := by decide +kernel
theorem dX4_requireRoomInSquare_17 : decode cX4_requireRoomInSquare 17 = .ok (.bipush 24, 2) := by decide +kernel
theorem dX4_requireRoomInSquare_19 : decode cX4_requireRoomInSquare 19 = .ok (.iload_n 3, 1) := by decide +kernel
theorem dX4_requireRoomInSquare_20 : decode cX4_requireRoomInSquare 20 = .ok (.isub, 1) := by decide +kernel
theorem dX4_requireRoomInSquare_21 : decode cX4_requireRoomInSquare 21 = .ok (.if_icmp .le 14, 3) := by decide +kernel
theorem dX4_requireRoomInSquare_24 : decode cX4_requireRoomInSquare 24 = .ok (.new 178, 3) := by decide +kernel
theorem dX4_requireRoomInSquare_27 : decode cX4_requireRoomInSquare 27 = .ok (.dup, 1) := by decide +kernel
theorem dX4_requireRoomInSquare_28 : decode cX4_requireRoomInSquare 28 = .ok (.ldc_w 271, 3) := by decide +kernel
theorem dX4_requireRoomInSquare_31 : decode cX4_requireRoomInSquare 31 = .ok (.invokespecial 182, 3) := by decide +kernel
theorem dX4_requireRoomInSquare_34 : decode cX4_requireRoomInSquare 34 = .ok (.athrow, 1) := by decide +kernel
theorem dX4_requireRoomInSquare_35 : decode cX4_requireRoomInSquare 35 = .ok (.return_, 1) := by decide +kernel
theorem dX4_requireDrops_0 : decode cX4_requireDrops 0 = .ok (.iload_n 0, 1) := by decide +kernel
theorem dX4_requireDrops_1 : decode cX4_requireDrops 1 = .ok (.iconst 1, 1) := by decide +kernel
theorem dX4_requireDrops_2 : decode cX4_requireDrops 2 = .ok (.if_icmp .lt 9, 3) := by decide +kernel
theorem dX4_requireDrops_5 : decode cX4_requireDrops 5 = .ok (.iload_n 0, 1) := by decide +kernel
theorem dX4_requireDrops_6 : decode cX4_requireDrops 6 = .ok (.bipush 20, 2) := by decide +kernel
theorem dX4_requireDrops_8 : decode cX4_requireDrops 8 = .ok (.if_icmp .le 14, 3) := by decide +kernel
theorem dX4_requireDrops_11 : decode cX4_requireDrops 11 = .ok (.new 50, 3) := by decide +kernel
theorem dX4_requireDrops_14 : decode cX4_requireDrops 14 = .ok (.dup, 1) := by decide +kernel
theorem dX4_requireDrops_15 : decode cX4_requireDrops 15 = .ok (.ldc_w 273, 3) := by decide +kernel
theorem dX4_requireDrops_18 : decode cX4_requireDrops 18 = .ok (.invokespecial 54, 3) := by decide +kernel
theorem dX4_requireDrops_21 : decode cX4_requireDrops 21 = .ok (.athrow, 1) := by decide +kernel
theorem dX4_requireDrops_22 : decode cX4_requireDrops 22 = .ok (.return_, 1) := by decide +kernel
theorem dX4_requireWhat_0 : decode cX4_requireWhat 0 = .ok (.iload_n 0, 1) := by decide +kernel
theorem dX4_requireWhat_1 : decode cX4_requireWhat 1 = .ok (.ifCond .lt 8, 3) := by decide +kernel
theorem dX4_requireWhat_4 : decode cX4_requireWhat 4 = .ok (.iload_n 0, 1) := by decide +kernel
theorem dX4_requireWhat_5 : decode cX4_requireWhat 5 = .ok (.iload_n 1, 1) := by decide +kernel
theorem dX4_requireWhat_6 : decode cX4_requireWhat 6 = .ok (.if_icmp .le 14, 3) := by decide +kernel
theorem dX4_requireWhat_9 : decode cX4_requireWhat 9 = .ok (.new 178, 3) := by decide +kernel
theorem dX4_requireWhat_12 : decode cX4_requireWhat 12 = .ok (.dup, 1) := by decide +kernel
theorem dX4_requireWhat_13 : decode cX4_requireWhat 13 = .ok (.ldc_w 275, 3) := by decide +kernel
theorem dX4_requireWhat_16 : decode cX4_requireWhat 16 = .ok (.invokespecial 182, 3) := by decide +kernel
theorem dX4_requireWhat_19 : decode cX4_requireWhat 19 = .ok (.athrow, 1) := by decide +kernel
theorem dX4_requireWhat_20 : decode cX4_requireWhat 20 = .ok (.return_, 1) := by decide +kernel
theorem dX5_init_0 : decode cX5_init 0 = .ok (.aload_n 0, 1) := by decide +kernel
theorem dX5_init_1 : decode cX5_init 1 = .ok (.invokespecial 1, 3) := by decide +kernel
theorem dX5_init_4 : decode cX5_init 4 = .ok (.aload_n 0, 1) := by decide +kernel
theorem dX5_init_5 : decode cX5_init 5 = .ok (.bipush 80, 2) := by decide +kernel
theorem dX5_init_7 : decode cX5_init 7 = .ok (.newarray .int, 2) := by decide +kernel
theorem dX5_init_9 : decode cX5_init 9 = .ok (.putfield 9, 3) := by decide +kernel
theorem dX5_init_12 : decode cX5_init 12 = .ok (.aload_n 0, 1) := by decide +kernel
theorem dX5_init_13 : decode cX5_init 13 = .ok (.bipush 8, 2) := by decide +kernel
theorem dX5_init_15 : decode cX5_init 15 = .ok (.newarray .int, 2) := by decide +kernel
theorem dX5_init_17 : decode cX5_init 17 = .ok (.putfield 13, 3) := by decide +kernel
theorem dX5_init_20 : decode cX5_init 20 = .ok (.aload_n 0, 1) := by decide +kernel
theorem dX5_init_21 : decode cX5_init 21 = .ok (.bipush 8, 2) := by decide +kernel
theorem dX5_init_23 : decode cX5_init 23 = .ok (.newarray .int, 2) := by decide +kernel
theorem dX5_init_25 : decode cX5_init 25 = .ok (.putfield 16, 3) := by decide +kernel
theorem dX5_init_28 : decode cX5_init 28 = .ok (.aload_n 0, 1) := by decide +kernel
theorem dX5_init_29 : decode cX5_init 29 = .ok (.sipush 576, 3) := by decide +kernel
theorem dX5_init_32 : decode cX5_init 32 = .ok (.newarray .int, 2) := by decide +kernel
theorem dX5_init_34 : decode cX5_init 34 = .ok (.putfield 19, 3) := by decide +kernel
theorem dX5_init_37 : decode cX5_init 37 = .ok (.aload_n 0, 1) := by decide +kernel
theorem dX5_init_38 : decode cX5_init 38 = .ok (.sipush 576, 3) := by decide +kernel
theorem dX5_init_41 : decode cX5_init 41 = .ok (.newarray .int, 2) := by decide +kernel
theorem dX5_init_43 : decode cX5_init 43 = .ok (.putfield 22, 3) := by decide +kernel
theorem dX5_init_46 : decode cX5_init 46 = .ok (.aload_n 0, 1) := by decide +kernel
theorem dX5_init_47 : decode cX5_init 47 = .ok (.bipush 10, 2) := by decide +kernel
theorem dX5_init_49 : decode cX5_init 49 = .ok (.newarray .int, 2) := by decide +kernel
theorem dX5_init_51 : decode cX5_init 51 = .ok (.putfield 25, 3) := by decide +kernel
theorem dX5_init_54 : decode cX5_init 54 = .ok (.return_, 1) := by decide +kernel
theorem dX5_thrown_0 : decode cX5_thrown 0 = .ok (.aload_n 0, 1) := by decide +kernel
theorem dX5_thrown_1 : decode cX5_thrown 1 = .ok (.getfield 28, 3) := by decide +kernel
theorem dX5_thrown_4 : decode cX5_thrown 4 = .ok (.ireturn, 1) := by decide +kernel
theorem dX5_no_0 : decode cX5_no 0 = .ok (.aload_n 0, 1) := by decide +kernel
theorem dX5_no_1 : decode cX5_no 1 = .ok (.iload_n 1, 1) := by decide +kernel
theorem dX5_no_2 : decode cX5_no 2 = .ok (.putfield 28, 3) := by decide +kernel
theorem dX5_no_5 : decode cX5_no 5 = .ok (.iconst 0, 1) := by decide +kernel
theorem dX5_no_6 : decode cX5_no 6 = .ok (.ireturn, 1) := by decide +kernel
theorem dX5_isIn_0 : decode cX5_isIn 0 = .ok (.iload_n 0, 1) := by decide +kernel
theorem dX5_isIn_1 : decode cX5_isIn 1 = .ok (.iload_n 1, 1) := by decide +kernel
theorem dX5_isIn_2 : decode cX5_isIn 2 = .ok (.if_icmp .lt 12, 3) := by decide +kernel
theorem dX5_isIn_5 : decode cX5_isIn 5 = .ok (.iload_n 0, 1) := by decide +kernel
theorem dX5_isIn_6 : decode cX5_isIn 6 = .ok (.iload_n 2, 1) := by decide +kernel
theorem dX5_isIn_7 : decode cX5_isIn 7 = .ok (.if_icmp .gt 7, 3) := by decide +kernel
theorem dX5_isIn_10 : decode cX5_isIn 10 = .ok (.iconst 1, 1) := by decide +kernel
theorem dX5_isIn_11 : decode cX5_isIn 11 = .ok (.goto 4, 3) := by decide +kernel
theorem dX5_isIn_14 : decode cX5_isIn 14 = .ok (.iconst 0, 1) := by decide +kernel
theorem dX5_isIn_15 : decode cX5_isIn 15 = .ok (.ireturn, 1) := by decide +kernel
theorem dX5_isCell_0 : decode cX5_isCell 0 = .ok (.iload_n 0, 1) := by decide +kernel
theorem dX5_isCell_1 : decode cX5_isCell 1 = .ok (.iconst 0, 1) := by decide +kernel
theorem dX5_isCell_2 : decode cX5_isCell 2 = .ok (.bipush 23, 2) := by decide +kernel
theorem dX5_isCell_4 : decode cX5_isCell 4 = .ok (.invokestatic 32, 3) := by decide +kernel
theorem dX5_isCell_7 : decode cX5_isCell 7 = .ok (.ifCond .eq 17, 3) := by decide +kernel
theorem dX5_isCell_10 : decode cX5_isCell 10 = .ok (.iload_n 1, 1) := by decide +kernel
theorem dX5_isCell_11 : decode cX5_isCell 11 = .ok (.iconst 0, 1) := by decide +kernel
theorem dX5_isCell_12 : decode cX5_isCell 12 = .ok (.bipush 23, 2) := by decide +kernel
theorem dX5_isCell_14 : decode cX5_isCell 14 = .ok (.invokestatic 32, 3) := by decide +kernel
theorem dX5_isCell_17 : decode cX5_isCell 17 = .ok (.ifCond .eq 7, 3) := by decide +kernel
theorem dX5_isCell_20 : decode cX5_isCell 20 = .ok (.iconst 1, 1) := by decide +kernel
theorem dX5_isCell_21 : decode cX5_isCell 21 = .ok (.goto 4, 3) := by decide +kernel
theorem dX5_isCell_24 : decode cX5_isCell 24 = .ok (.iconst 0, 1) := by decide +kernel
theorem dX5_isCell_25 : decode cX5_isCell 25 = .ok (.ireturn, 1) := by decide +kernel
theorem dX5_fits_0 : decode cX5_fits 0 = .ok (.iload_n 0, 1) := by decide +kernel
theorem dX5_fits_1 : decode cX5_fits 1 = .ok (.iconst 0, 1) := by decide +kernel
theorem dX5_fits_2 : decode cX5_fits 2 = .ok (.bipush 24, 2) := by decide +kernel
theorem dX5_fits_4 : decode cX5_fits 4 = .ok (.iload_n 2, 1) := by decide +kernel
theorem dX5_fits_5 : decode cX5_fits 5 = .ok (.isub, 1) := by decide +kernel
theorem dX5_fits_6 : decode cX5_fits 6 = .ok (.invokestatic 32, 3) := by decide +kernel
theorem dX5_fits_9 : decode cX5_fits 9 = .ok (.ifCond .eq 19, 3) := by decide +kernel
theorem dX5_fits_12 : decode cX5_fits 12 = .ok (.iload_n 1, 1) := by decide +kernel
theorem dX5_fits_13 : decode cX5_fits 13 = .ok (.iconst 0, 1) := by decide +kernel
theorem dX5_fits_14 : decode cX5_fits 14 = .ok (.bipush 24, 2) := by decide +kernel
theorem dX5_fits_16 : decode cX5_fits 16 = .ok (.iload_n 3, 1) := by decide +kernel
theorem dX5_fits_17 : decode cX5_fits 17 = .ok (.isub, 1) := by decide +kernel
theorem dX5_fits_18 : decode cX5_fits 18 = .ok (.invokestatic 32, 3) := by decide +kernel
theorem dX5_fits_21 : decode cX5_fits 21 = .ok (.ifCond .eq 7, 3) := by decide +kernel
theorem dX5_fits_24 : decode cX5_fits 24 = .ok (.iconst 1, 1) := by decide +kernel
theorem dX5_fits_25 : decode cX5_fits 25 = .ok (.goto 4, 3) := by decide +kernel
theorem dX5_fits_28 : decode cX5_fits 28 = .ok (.iconst 0, 1) := by decide +kernel
theorem dX5_fits_29 : decode cX5_fits 29 = .ok (.ireturn, 1) := by decide +kernel
theorem dX5_isAwning_0 : decode cX5_isAwning 0 = .ok (.iload_n 1, 1) := by decide +kernel
theorem dX5_isAwning_1 : decode cX5_isAwning 1 = .ok (.iconst 0, 1) := by decide +kernel
theorem dX5_isAwning_2 : decode cX5_isAwning 2 = .ok (.aload_n 0, 1) := by decide +kernel
theorem dX5_isAwning_3 : decode cX5_isAwning 3 = .ok (.getfield 36, 3) := by decide +kernel
theorem dX5_isAwning_6 : decode cX5_isAwning 6 = .ok (.iconst 1, 1) := by decide +kernel
theorem dX5_isAwning_7 : decode cX5_isAwning 7 = .ok (.isub, 1) := by decide +kernel
theorem dX5_isAwning_8 : decode cX5_isAwning 8 = .ok (.invokestatic 32, 3) := by decide +kernel
theorem dX5_isAwning_11 : decode cX5_isAwning 11 = .ok (.ireturn, 1) := by decide +kernel
theorem dX5_isStall_0 : decode cX5_isStall 0 = .ok (.iload_n 1, 1) := by decide +kernel
theorem dX5_isStall_1 : decode cX5_isStall 1 = .ok (.iconst 0, 1) := by decide +kernel
theorem dX5_isStall_2 : decode cX5_isStall 2 = .ok (.aload_n 0, 1) := by decide +kernel
theorem dX5_isStall_3 : decode cX5_isStall 3 = .ok (.getfield 39, 3) := by decide +kernel
theorem dX5_isStall_6 : decode cX5_isStall 6 = .ok (.iconst 1, 1) := by decide +kernel
theorem dX5_isStall_7 : decode cX5_isStall 7 = .ok (.isub, 1) := by decide +kernel
theorem dX5_isStall_8 : decode cX5_isStall 8 = .ok (.invokestatic 32, 3) := by decide +kernel
theorem dX5_isStall_11 : decode cX5_isStall 11 = .ok (.ireturn, 1) := by decide +kernel
end
section
theorem dX5_of_0 : decode cX5_of 0 = .ok (.aload_n 0, 1) := by decide +kernel
theorem dX5_of_1 : decode cX5_of 1 = .ok (.getfield 9, 3) := by decide +kernel
theorem dX5_of_4 : decode cX5_of 4 = .ok (.bipush 8, 2) := by decide +kernel
theorem dX5_of_6 : decode cX5_of 6 = .ok (.iload_n 1, 1) := by decide +kernel
theorem dX5_of_7 : decode cX5_of 7 = .ok (.imul, 1) := by decide +kernel
theorem dX5_of_8 : decode cX5_of 8 = .ok (.iload_n 2, 1) := by decide +kernel
theorem dX5_of_9 : decode cX5_of 9 = .ok (.iadd, 1) := by decide +kernel
theorem dX5_of_10 : decode cX5_of 10 = .ok (.iaload, 1) := by decide +kernel
theorem dX5_of_11 : decode cX5_of 11 = .ok (.ireturn, 1) := by decide +kernel
theorem dX5_isOut_0 : decode cX5_isOut 0 = .ok (.aload_n 0, 1) := by decide +kernel
theorem dX5_isOut_1 : decode cX5_isOut 1 = .ok (.iload_n 1, 1) := by decide +kernel
theorem dX5_isOut_2 : decode cX5_isOut 2 = .ok (.bipush 6, 2) := by decide +kernel
theorem dX5_isOut_4 : decode cX5_isOut 4 = .ok (.invokevirtual 42, 3) := by decide +kernel
theorem dX5_isOut_7 : decode cX5_isOut 7 = .ok (.iconst 1, 1) := by decide +kernel
theorem dX5_isOut_8 : decode cX5_isOut 8 = .ok (.if_icmp .ne 7, 3) := by decide +kernel
theorem dX5_isOut_11 : decode cX5_isOut 11 = .ok (.iconst 1, 1) := by decide +kernel
theorem dX5_isOut_12 : decode cX5_isOut 12 = .ok (.goto 4, 3) := by decide +kernel
theorem dX5_isOut_15 : decode cX5_isOut 15 = .ok (.iconst 0, 1) := by decide +kernel
theorem dX5_isOut_16 : decode cX5_isOut 16 = .ok (.ireturn, 1) := by decide +kernel
theorem dX5_many_0 : decode cX5_many 0 = .ok (.iconst 0, 1) := by decide +kernel
theorem dX5_many_1 : decode cX5_many 1 = .ok (.istore_n 1, 1) := by decide +kernel
theorem dX5_many_2 : decode cX5_many 2 = .ok (.iload_n 0, 1) := by decide +kernel
theorem dX5_many_3 : decode cX5_many 3 = .ok (.istore_n 2, 1) := by decide +kernel
theorem dX5_many_4 : decode cX5_many 4 = .ok (.iload_n 2, 1) := by decide +kernel
theorem dX5_many_5 : decode cX5_many 5 = .ok (.ifCond .eq 15, 3) := by decide +kernel
theorem dX5_many_8 : decode cX5_many 8 = .ok (.iinc 1 1, 3) := by decide +kernel
theorem dX5_many_11 : decode cX5_many 11 = .ok (.iload_n 2, 1) := by decide +kernel
theorem dX5_many_12 : decode cX5_many 12 = .ok (.iload_n 2, 1) := by decide +kernel
theorem dX5_many_13 : decode cX5_many 13 = .ok (.iconst 1, 1) := by decide +kernel
theorem dX5_many_14 : decode cX5_many 14 = .ok (.isub, 1) := by decide +kernel
theorem dX5_many_15 : decode cX5_many 15 = .ok (.iand, 1) := by decide +kernel
theorem dX5_many_16 : decode cX5_many 16 = .ok (.istore_n 2, 1) := by decide +kernel
theorem dX5_many_17 : decode cX5_many 17 = .ok (.goto (-13), 3) := by decide +kernel
theorem dX5_many_20 : decode cX5_many 20 = .ok (.iload_n 1, 1) := by decide +kernel
theorem dX5_many_21 : decode cX5_many 21 = .ok (.ireturn, 1) := by decide +kernel
theorem dX5_rows_0 : decode cX5_rows 0 = .ok (.iconst 1, 1) := by decide +kernel
theorem dX5_rows_1 : decode cX5_rows 1 = .ok (.iload_n 1, 1) := by decide +kernel
theorem dX5_rows_2 : decode cX5_rows 2 = .ok (.ishl, 1) := by decide +kernel
theorem dX5_rows_3 : decode cX5_rows 3 = .ok (.iconst 1, 1) := by decide +kernel
theorem dX5_rows_4 : decode cX5_rows 4 = .ok (.isub, 1) := by decide +kernel
theorem dX5_rows_5 : decode cX5_rows 5 = .ok (.iload_n 0, 1) := by decide +kernel
theorem dX5_rows_6 : decode cX5_rows 6 = .ok (.ishl, 1) := by decide +kernel
theorem dX5_rows_7 : decode cX5_rows 7 = .ok (.ireturn, 1) := by decide +kernel
theorem dX5_bits_0 : decode cX5_bits 0 = .ok (.aload_n 0, 1) := by decide +kernel
theorem dX5_bits_1 : decode cX5_bits 1 = .ok (.iload_n 1, 1) := by decide +kernel
theorem dX5_bits_2 : decode cX5_bits 2 = .ok (.invokevirtual 46, 3) := by decide +kernel
theorem dX5_bits_5 : decode cX5_bits 5 = .ok (.ifCond .eq 49, 3) := by decide +kernel
theorem dX5_bits_8 : decode cX5_bits 8 = .ok (.iload_n 2, 1) := by decide +kernel
theorem dX5_bits_9 : decode cX5_bits 9 = .ok (.aload_n 0, 1) := by decide +kernel
theorem dX5_bits_10 : decode cX5_bits 10 = .ok (.iload_n 1, 1) := by decide +kernel
theorem dX5_bits_11 : decode cX5_bits 11 = .ok (.iconst 0, 1) := by decide +kernel
theorem dX5_bits_12 : decode cX5_bits 12 = .ok (.invokevirtual 42, 3) := by decide +kernel
theorem dX5_bits_15 : decode cX5_bits 15 = .ok (.aload_n 0, 1) := by decide +kernel
theorem dX5_bits_16 : decode cX5_bits 16 = .ok (.iload_n 1, 1) := by decide +kernel
theorem dX5_bits_17 : decode cX5_bits 17 = .ok (.iconst 0, 1) := by decide +kernel
theorem dX5_bits_18 : decode cX5_bits 18 = .ok (.invokevirtual 42, 3) := by decide +kernel
theorem dX5_bits_21 : decode cX5_bits 21 = .ok (.aload_n 0, 1) := by decide +kernel
theorem dX5_bits_22 : decode cX5_bits 22 = .ok (.iload_n 1, 1) := by decide +kernel
theorem dX5_bits_23 : decode cX5_bits 23 = .ok (.iconst 2, 1) := by decide +kernel
theorem dX5_bits_24 : decode cX5_bits 24 = .ok (.invokevirtual 42, 3) := by decide +kernel
theorem dX5_bits_27 : decode cX5_bits 27 = .ok (.iadd, 1) := by decide +kernel
theorem dX5_bits_28 : decode cX5_bits 28 = .ok (.iconst 1, 1) := by decide +kernel
theorem dX5_bits_29 : decode cX5_bits 29 = .ok (.isub, 1) := by decide +kernel
theorem dX5_bits_30 : decode cX5_bits 30 = .ok (.invokestatic 32, 3) := by decide +kernel
theorem dX5_bits_33 : decode cX5_bits 33 = .ok (.ifCond .eq 21, 3) := by decide +kernel
theorem dX5_bits_36 : decode cX5_bits 36 = .ok (.aload_n 0, 1) := by decide +kernel
theorem dX5_bits_37 : decode cX5_bits 37 = .ok (.iload_n 1, 1) := by decide +kernel
theorem dX5_bits_38 : decode cX5_bits 38 = .ok (.iconst 1, 1) := by decide +kernel
theorem dX5_bits_39 : decode cX5_bits 39 = .ok (.invokevirtual 42, 3) := by decide +kernel
theorem dX5_bits_42 : decode cX5_bits 42 = .ok (.aload_n 0, 1) := by decide +kernel
theorem dX5_bits_43 : decode cX5_bits 43 = .ok (.iload_n 1, 1) := by decide +kernel
theorem dX5_bits_44 : decode cX5_bits 44 = .ok (.iconst 3, 1) := by decide +kernel
theorem dX5_bits_45 : decode cX5_bits 45 = .ok (.invokevirtual 42, 3) := by decide +kernel
theorem dX5_bits_48 : decode cX5_bits 48 = .ok (.invokestatic 50, 3) := by decide +kernel
theorem dX5_bits_51 : decode cX5_bits 51 = .ok (.goto 4, 3) := by decide +kernel
theorem dX5_bits_54 : decode cX5_bits 54 = .ok (.iconst 0, 1) := by decide +kernel
theorem dX5_bits_55 : decode cX5_bits 55 = .ok (.ireturn, 1) := by decide +kernel
theorem dX5_covered_0 : decode cX5_covered 0 = .ok (.iconst 0, 1) := by decide +kernel
theorem dX5_covered_1 : decode cX5_covered 1 = .ok (.istore_n 3, 1) := by decide +kernel
theorem dX5_covered_2 : decode cX5_covered 2 = .ok (.iconst 0, 1) := by decide +kernel
theorem dX5_covered_3 : decode cX5_covered 3 = .ok (.istore 4, 2) := by decide +kernel
theorem dX5_covered_5 : decode cX5_covered 5 = .ok (.iload 4, 2) := by decide +kernel
theorem dX5_covered_7 : decode cX5_covered 7 = .ok (.aload_n 0, 1) := by decide +kernel
theorem dX5_covered_8 : decode cX5_covered 8 = .ok (.getfield 36, 3) := by decide +kernel
theorem dX5_covered_11 : decode cX5_covered 11 = .ok (.if_icmp .ge 29, 3) := by decide +kernel
theorem dX5_covered_14 : decode cX5_covered 14 = .ok (.iload_n 3, 1) := by decide +kernel
theorem dX5_covered_15 : decode cX5_covered 15 = .ok (.iload 4, 2) := by decide +kernel
theorem dX5_covered_17 : decode cX5_covered 17 = .ok (.iload_n 2, 1) := by decide +kernel
theorem dX5_covered_18 : decode cX5_covered 18 = .ok (.if_icmp .ne 7, 3) := by decide +kernel
theorem dX5_covered_21 : decode cX5_covered 21 = .ok (.iconst 0, 1) := by decide +kernel
theorem dX5_covered_22 : decode cX5_covered 22 = .ok (.goto 10, 3) := by decide +kernel
theorem dX5_covered_25 : decode cX5_covered 25 = .ok (.aload_n 0, 1) := by decide +kernel
theorem dX5_covered_26 : decode cX5_covered 26 = .ok (.iload 4, 2) := by decide +kernel
theorem dX5_covered_28 : decode cX5_covered 28 = .ok (.iload_n 1, 1) := by decide +kernel
theorem dX5_covered_29 : decode cX5_covered 29 = .ok (.invokevirtual 53, 3) := by decide +kernel
theorem dX5_covered_32 : decode cX5_covered 32 = .ok (.ior, 1) := by decide +kernel
theorem dX5_covered_33 : decode cX5_covered 33 = .ok (.istore_n 3, 1) := by decide +kernel
theorem dX5_covered_34 : decode cX5_covered 34 = .ok (.iinc 4 1, 3) := by decide +kernel
theorem dX5_covered_37 : decode cX5_covered 37 = .ok (.goto (-32), 3) := by decide +kernel
theorem dX5_covered_40 : decode cX5_covered 40 = .ok (.iload_n 3, 1) := by decide +kernel
theorem dX5_covered_41 : decode cX5_covered 41 = .ok (.ireturn, 1) := by decide +kernel
theorem dX5_covered__0 : decode cX5_covered_ 0 = .ok (.iload_n 1, 1) := by decide +kernel
theorem dX5_covered__1 : decode cX5_covered_ 1 = .ok (.iconst 0, 1) := by decide +kernel
theorem dX5_covered__2 : decode cX5_covered_ 2 = .ok (.bipush 23, 2) := by decide +kernel
theorem dX5_covered__4 : decode cX5_covered_ 4 = .ok (.invokestatic 32, 3) := by decide +kernel
theorem dX5_covered__7 : decode cX5_covered_ 7 = .ok (.ifCond .eq 12, 3) := by decide +kernel
theorem dX5_covered__10 : decode cX5_covered_ 10 = .ok (.aload_n 0, 1) := by decide +kernel
theorem dX5_covered__11 : decode cX5_covered_ 11 = .ok (.iload_n 1, 1) := by decide +kernel
theorem dX5_covered__12 : decode cX5_covered_ 12 = .ok (.iconst (-1), 1) := by decide +kernel
theorem dX5_covered__13 : decode cX5_covered_ 13 = .ok (.invokevirtual 56, 3) := by decide +kernel
theorem dX5_covered__16 : decode cX5_covered_ 16 = .ok (.goto 4, 3) := by decide +kernel
theorem dX5_covered__19 : decode cX5_covered_ 19 = .ok (.iconst 0, 1) := by decide +kernel
theorem dX5_covered__20 : decode cX5_covered_ 20 = .ok (.ireturn, 1) := by decide +kernel
theorem dX5_lying_0 : decode cX5_lying 0 = .ok (.iconst 0, 1) := by decide +kernel
theorem dX5_lying_1 : decode cX5_lying 1 = .ok (.istore_n 3, 1) := by decide +kernel
theorem dX5_lying_2 : decode cX5_lying 2 = .ok (.iconst 0, 1) := by decide +kernel
theorem dX5_lying_3 : decode cX5_lying 3 = .ok (.istore 4, 2) := by decide +kernel
theorem dX5_lying_5 : decode cX5_lying 5 = .ok (.iload 4, 2) := by decide +kernel
theorem dX5_lying_7 : decode cX5_lying 7 = .ok (.aload_n 0, 1) := by decide +kernel
theorem dX5_lying_8 : decode cX5_lying 8 = .ok (.getfield 36, 3) := by decide +kernel
theorem dX5_lying_11 : decode cX5_lying 11 = .ok (.if_icmp .ge 23, 3) := by decide +kernel
theorem dX5_lying_14 : decode cX5_lying 14 = .ok (.iload_n 3, 1) := by decide +kernel
theorem dX5_lying_15 : decode cX5_lying 15 = .ok (.aload_n 0, 1) := by decide +kernel
theorem dX5_lying_16 : decode cX5_lying 16 = .ok (.iload 4, 2) := by decide +kernel
theorem dX5_lying_18 : decode cX5_lying 18 = .ok (.iload_n 1, 1) := by decide +kernel
theorem dX5_lying_19 : decode cX5_lying 19 = .ok (.invokevirtual 53, 3) := by decide +kernel
theorem dX5_lying_22 : decode cX5_lying 22 = .ok (.iload_n 2, 1) := by decide +kernel
theorem dX5_lying_23 : decode cX5_lying 23 = .ok (.ishr, 1) := by decide +kernel
theorem dX5_lying_24 : decode cX5_lying 24 = .ok (.iconst 1, 1) := by decide +kernel
theorem dX5_lying_25 : decode cX5_lying 25 = .ok (.iand, 1) := by decide +kernel
theorem dX5_lying_26 : decode cX5_lying 26 = .ok (.iadd, 1) := by decide +kernel
theorem dX5_lying_27 : decode cX5_lying 27 = .ok (.istore_n 3, 1) := by decide +kernel
theorem dX5_lying_28 : decode cX5_lying 28 = .ok (.iinc 4 1, 3) := by decide +kernel
theorem dX5_lying_31 : decode cX5_lying 31 = .ok (.goto (-26), 3) := by decide +kernel
theorem dX5_lying_34 : decode cX5_lying 34 = .ok (.iload_n 3, 1) := by decide +kernel
theorem dX5_lying_35 : decode cX5_lying 35 = .ok (.ireturn, 1) := by decide +kernel
theorem dX5_below_0 : decode cX5_below 0 = .ok (.iconst (-1), 1) := by decide +kernel
theorem dX5_below_1 : decode cX5_below 1 = .ok (.istore_n 2, 1) := by decide +kernel
theorem dX5_below_2 : decode cX5_below 2 = .ok (.iconst 0, 1) := by decide +kernel
theorem dX5_below_3 : decode cX5_below 3 = .ok (.istore_n 3, 1) := by decide +kernel
theorem dX5_below_4 : decode cX5_below 4 = .ok (.iload_n 3, 1) := by decide +kernel
theorem dX5_below_5 : decode cX5_below 5 = .ok (.aload_n 0, 1) := by decide +kernel
theorem dX5_below_6 : decode cX5_below 6 = .ok (.getfield 36, 3) := by decide +kernel
theorem dX5_below_9 : decode cX5_below 9 = .ok (.if_icmp .ge 47, 3) := by decide +kernel
theorem dX5_below_12 : decode cX5_below 12 = .ok (.aload_n 0, 1) := by decide +kernel
theorem dX5_below_13 : decode cX5_below 13 = .ok (.iload_n 3, 1) := by decide +kernel
theorem dX5_below_14 : decode cX5_below 14 = .ok (.invokevirtual 46, 3) := by decide +kernel
theorem dX5_below_17 : decode cX5_below 17 = .ok (.ifCond .eq 33, 3) := by decide +kernel
theorem dX5_below_20 : decode cX5_below 20 = .ok (.iload_n 1, 1) := by decide +kernel
theorem dX5_below_21 : decode cX5_below 21 = .ok (.iconst (-1), 1) := by decide +kernel
theorem dX5_below_22 : decode cX5_below 22 = .ok (.if_icmp .eq 12, 3) := by decide +kernel
theorem dX5_below_25 : decode cX5_below 25 = .ok (.aload_n 0, 1) := by decide +kernel
theorem dX5_below_26 : decode cX5_below 26 = .ok (.iload_n 1, 1) := by decide +kernel
theorem dX5_below_27 : decode cX5_below 27 = .ok (.iload_n 3, 1) := by decide +kernel
theorem dX5_below_28 : decode cX5_below 28 = .ok (.invokevirtual 59, 3) := by decide +kernel
theorem dX5_below_31 : decode cX5_below 31 = .ok (.ifCond .eq 19, 3) := by decide +kernel
theorem dX5_below_34 : decode cX5_below 34 = .ok (.iload_n 2, 1) := by decide +kernel
theorem dX5_below_35 : decode cX5_below 35 = .ok (.iconst (-1), 1) := by decide +kernel
theorem dX5_below_36 : decode cX5_below 36 = .ok (.if_icmp .eq 12, 3) := by decide +kernel
theorem dX5_below_39 : decode cX5_below 39 = .ok (.aload_n 0, 1) := by decide +kernel
theorem dX5_below_40 : decode cX5_below 40 = .ok (.iload_n 3, 1) := by decide +kernel
theorem dX5_below_41 : decode cX5_below 41 = .ok (.iload_n 2, 1) := by decide +kernel
theorem dX5_below_42 : decode cX5_below 42 = .ok (.invokevirtual 59, 3) := by decide +kernel
theorem dX5_below_45 : decode cX5_below 45 = .ok (.ifCond .eq 5, 3) := by decide +kernel
theorem dX5_below_48 : decode cX5_below 48 = .ok (.iload_n 3, 1) := by decide +kernel
theorem dX5_below_49 : decode cX5_below 49 = .ok (.istore_n 2, 1) := by decide +kernel
theorem dX5_below_50 : decode cX5_below 50 = .ok (.iinc 3 1, 3) := by decide +kernel
theorem dX5_below_53 : decode cX5_below 53 = .ok (.goto (-49), 3) := by decide +kernel
theorem dX5_below_56 : decode cX5_below 56 = .ok (.iload_n 2, 1) := by decide +kernel
theorem dX5_below_57 : decode cX5_below 57 = .ok (.ireturn, 1) := by decide +kernel
theorem dX5_isHigher_0 : decode cX5_isHigher 0 = .ok (.aload_n 0, 1) := by decide +kernel
theorem dX5_isHigher_1 : decode cX5_isHigher 1 = .ok (.iload_n 1, 1) := by decide +kernel
theorem dX5_isHigher_2 : decode cX5_isHigher 2 = .ok (.iconst 4, 1) := by decide +kernel
theorem dX5_isHigher_3 : decode cX5_isHigher 3 = .ok (.invokevirtual 42, 3) := by decide +kernel
theorem dX5_isHigher_6 : decode cX5_isHigher 6 = .ok (.aload_n 0, 1) := by decide +kernel
theorem dX5_isHigher_7 : decode cX5_isHigher 7 = .ok (.iload_n 2, 1) := by decide +kernel
theorem dX5_isHigher_8 : decode cX5_isHigher 8 = .ok (.iconst 4, 1) := by decide +kernel
theorem dX5_isHigher_9 : decode cX5_isHigher 9 = .ok (.invokevirtual 42, 3) := by decide +kernel
theorem dX5_isHigher_12 : decode cX5_isHigher 12 = .ok (.if_icmp .gt 23, 3) := by decide +kernel
theorem dX5_isHigher_15 : decode cX5_isHigher 15 = .ok (.aload_n 0, 1) := by decide +kernel
theorem dX5_isHigher_16 : decode cX5_isHigher 16 = .ok (.iload_n 1, 1) := by decide +kernel
theorem dX5_isHigher_17 : decode cX5_isHigher 17 = .ok (.iconst 4, 1) := by decide +kernel
theorem dX5_isHigher_18 : decode cX5_isHigher 18 = .ok (.invokevirtual 42, 3) := by decide +kernel
theorem dX5_isHigher_21 : decode cX5_isHigher 21 = .ok (.aload_n 0, 1) := by decide +kernel
theorem dX5_isHigher_22 : decode cX5_isHigher 22 = .ok (.iload_n 2, 1) := by decide +kernel
theorem dX5_isHigher_23 : decode cX5_isHigher 23 = .ok (.iconst 4, 1) := by decide +kernel
theorem dX5_isHigher_24 : decode cX5_isHigher 24 = .ok (.invokevirtual 42, 3) := by decide +kernel
theorem dX5_isHigher_27 : decode cX5_isHigher 27 = .ok (.if_icmp .ne 12, 3) := by decide +kernel
theorem dX5_isHigher_30 : decode cX5_isHigher 30 = .ok (.iload_n 1, 1) := by decide +kernel
theorem dX5_isHigher_31 : decode cX5_isHigher 31 = .ok (.iload_n 2, 1) := by decide +kernel
theorem dX5_isHigher_32 : decode cX5_isHigher 32 = .ok (.if_icmp .ge 7, 3) := by decide +kernel
theorem dX5_isHigher_35 : decode cX5_isHigher 35 = .ok (.iconst 1, 1) := by decide +kernel
theorem dX5_isHigher_36 : decode cX5_isHigher 36 = .ok (.goto 4, 3) := by decide +kernel
theorem dX5_isHigher_39 : decode cX5_isHigher 39 = .ok (.iconst 0, 1) := by decide +kernel
theorem dX5_isHigher_40 : decode cX5_isHigher 40 = .ok (.ireturn, 1) := by decide +kernel
theorem dX5_highest_0 : decode cX5_highest 0 = .ok (.aload_n 0, 1) := by decide +kernel
theorem dX5_highest_1 : decode cX5_highest 1 = .ok (.iconst (-1), 1) := by decide +kernel
theorem dX5_highest_2 : decode cX5_highest 2 = .ok (.invokevirtual 63, 3) := by decide +kernel
theorem dX5_highest_5 : decode cX5_highest 5 = .ok (.istore 4, 2) := by decide +kernel
theorem dX5_highest_7 : decode cX5_highest 7 = .ok (.iload 4, 2) := by decide +kernel
theorem dX5_highest_9 : decode cX5_highest 9 = .ok (.iconst (-1), 1) := by decide +kernel
theorem dX5_highest_10 : decode cX5_highest 10 = .ok (.if_icmp .eq 43, 3) := by decide +kernel
theorem dX5_highest_13 : decode cX5_highest 13 = .ok (.aload_n 0, 1) := by decide +kernel
theorem dX5_highest_14 : decode cX5_highest 14 = .ok (.iload 4, 2) := by decide +kernel
theorem dX5_highest_16 : decode cX5_highest 16 = .ok (.iconst 4, 1) := by decide +kernel
theorem dX5_highest_17 : decode cX5_highest 17 = .ok (.invokevirtual 42, 3) := by decide +kernel
theorem dX5_highest_20 : decode cX5_highest 20 = .ok (.iload_n 3, 1) := by decide +kernel
theorem dX5_highest_21 : decode cX5_highest 21 = .ok (.if_icmp .ge 21, 3) := by decide +kernel
theorem dX5_highest_24 : decode cX5_highest 24 = .ok (.aload_n 0, 1) := by decide +kernel
theorem dX5_highest_25 : decode cX5_highest 25 = .ok (.iload 4, 2) := by decide +kernel
theorem dX5_highest_27 : decode cX5_highest 27 = .ok (.iload_n 1, 1) := by decide +kernel
theorem dX5_highest_28 : decode cX5_highest 28 = .ok (.invokevirtual 53, 3) := by decide +kernel
theorem dX5_highest_31 : decode cX5_highest 31 = .ok (.iload_n 2, 1) := by decide +kernel
theorem dX5_highest_32 : decode cX5_highest 32 = .ok (.ishr, 1) := by decide +kernel
theorem dX5_highest_33 : decode cX5_highest 33 = .ok (.iconst 1, 1) := by decide +kernel
theorem dX5_highest_34 : decode cX5_highest 34 = .ok (.iand, 1) := by decide +kernel
theorem dX5_highest_35 : decode cX5_highest 35 = .ok (.iconst 1, 1) := by decide +kernel
theorem dX5_highest_36 : decode cX5_highest 36 = .ok (.if_icmp .ne 6, 3) := by decide +kernel
theorem dX5_highest_39 : decode cX5_highest 39 = .ok (.iload 4, 2) := by decide +kernel
theorem dX5_highest_41 : decode cX5_highest 41 = .ok (.ireturn, 1) := by decide +kernel
theorem dX5_highest_42 : decode cX5_highest 42 = .ok (.aload_n 0, 1) := by decide +kernel
theorem dX5_highest_43 : decode cX5_highest 43 = .ok (.iload 4, 2) := by decide +kernel
theorem dX5_highest_45 : decode cX5_highest 45 = .ok (.invokevirtual 63, 3) := by decide +kernel
theorem dX5_highest_48 : decode cX5_highest 48 = .ok (.istore 4, 2) := by decide +kernel
theorem dX5_highest_50 : decode cX5_highest 50 = .ok (.goto (-43), 3) := by decide +kernel
theorem dX5_highest_53 : decode cX5_highest 53 = .ok (.iconst (-1), 1) := by decide +kernel
theorem dX5_highest_54 : decode cX5_highest 54 = .ok (.ireturn, 1) := by decide +kernel
theorem dX5_fall_0 : decode cX5_fall 0 = .ok (.aload_n 0, 1) := by decide +kernel
theorem dX5_fall_1 : decode cX5_fall 1 = .ok (.iload_n 1, 1) := by decide +kernel
theorem dX5_fall_2 : decode cX5_fall 2 = .ok (.iload_n 2, 1) := by decide +kernel
theorem dX5_fall_3 : decode cX5_fall 3 = .ok (.iload_n 3, 1) := by decide +kernel
theorem dX5_fall_4 : decode cX5_fall 4 = .ok (.invokevirtual 67, 3) := by decide +kernel
theorem dX5_fall_7 : decode cX5_fall 7 = .ok (.istore 5, 2) := by decide +kernel
theorem dX5_fall_9 : decode cX5_fall 9 = .ok (.iload 5, 2) := by decide +kernel
theorem dX5_fall_11 : decode cX5_fall 11 = .ok (.iconst (-1), 1) := by decide +kernel
theorem dX5_fall_12 : decode cX5_fall 12 = .ok (.if_icmp .ne 22, 3) := by decide +kernel
theorem dX5_fall_15 : decode cX5_fall 15 = .ok (.aload_n 0, 1) := by decide +kernel
theorem dX5_fall_16 : decode cX5_fall 16 = .ok (.getfield 22, 3) := by decide +kernel
theorem dX5_fall_19 : decode cX5_fall 19 = .ok (.bipush 24, 2) := by decide +kernel
theorem dX5_fall_21 : decode cX5_fall 21 = .ok (.iload_n 1, 1) := by decide +kernel
theorem dX5_fall_22 : decode cX5_fall 22 = .ok (.imul, 1) := by decide +kernel
theorem dX5_fall_23 : decode cX5_fall 23 = .ok (.iload_n 2, 1) := by decide +kernel
theorem dX5_fall_24 : decode cX5_fall 24 = .ok (.iadd, 1) := by decide +kernel
theorem dX5_fall_25 : decode cX5_fall 25 = .ok (.dup2, 1) := by decide +kernel
theorem dX5_fall_26 : decode cX5_fall 26 = .ok (.iaload, 1) := by decide +kernel
theorem dX5_fall_27 : decode cX5_fall 27 = .ok (.iload 4, 2) := by decide +kernel
theorem dX5_fall_29 : decode cX5_fall 29 = .ok (.iadd, 1) := by decide +kernel
theorem dX5_fall_30 : decode cX5_fall 30 = .ok (.iastore, 1) := by decide +kernel
theorem dX5_fall_31 : decode cX5_fall 31 = .ok (.goto 15, 3) := by decide +kernel
theorem dX5_fall_34 : decode cX5_fall 34 = .ok (.aload_n 0, 1) := by decide +kernel
theorem dX5_fall_35 : decode cX5_fall 35 = .ok (.getfield 25, 3) := by decide +kernel
theorem dX5_fall_38 : decode cX5_fall 38 = .ok (.iload 5, 2) := by decide +kernel
theorem dX5_fall_40 : decode cX5_fall 40 = .ok (.dup2, 1) := by decide +kernel
theorem dX5_fall_41 : decode cX5_fall 41 = .ok (.iaload, 1) := by decide +kernel
theorem dX5_fall_42 : decode cX5_fall 42 = .ok (.iload 4, 2) := by decide +kernel
theorem dX5_fall_44 : decode cX5_fall 44 = .ok (.iadd, 1) := by decide +kernel
theorem dX5_fall_45 : decode cX5_fall 45 = .ok (.iastore, 1) := by decide +kernel
theorem dX5_fall_46 : decode cX5_fall 46 = .ok (.return_, 1) := by decide +kernel
theorem dX5_drip_0 : decode cX5_drip 0 = .ok (.aload_n 0, 1) := by decide +kernel
theorem dX5_drip_1 : decode cX5_drip 1 = .ok (.iload_n 1, 1) := by decide +kernel
theorem dX5_drip_2 : decode cX5_drip 2 = .ok (.iconst 5, 1) := by decide +kernel
theorem dX5_drip_3 : decode cX5_drip 3 = .ok (.invokevirtual 42, 3) := by decide +kernel
theorem dX5_drip_6 : decode cX5_drip 6 = .ok (.iconst 2, 1) := by decide +kernel
theorem dX5_drip_7 : decode cX5_drip 7 = .ok (.irem, 1) := by decide +kernel
theorem dX5_drip_8 : decode cX5_drip 8 = .ok (.ifCond .ne 7, 3) := by decide +kernel
theorem dX5_drip_11 : decode cX5_drip 11 = .ok (.iconst 1, 1) := by decide +kernel
theorem dX5_drip_12 : decode cX5_drip 12 = .ok (.goto 4, 3) := by decide +kernel
theorem dX5_drip_15 : decode cX5_drip 15 = .ok (.iconst 0, 1) := by decide +kernel
theorem dX5_drip_16 : decode cX5_drip 16 = .ok (.istore_n 2, 1) := by decide +kernel
theorem dX5_drip_17 : decode cX5_drip 17 = .ok (.aload_n 0, 1) := by decide +kernel
theorem dX5_drip_18 : decode cX5_drip 18 = .ok (.iload_n 1, 1) := by decide +kernel
theorem dX5_drip_19 : decode cX5_drip 19 = .ok (.iload_n 2, 1) := by decide +kernel
theorem dX5_drip_20 : decode cX5_drip 20 = .ok (.ifCond .eq 7, 3) := by decide +kernel
theorem dX5_drip_23 : decode cX5_drip 23 = .ok (.iconst 3, 1) := by decide +kernel
theorem dX5_drip_24 : decode cX5_drip 24 = .ok (.goto 4, 3) := by decide +kernel
theorem dX5_drip_27 : decode cX5_drip 27 = .ok (.iconst 2, 1) := by decide +kernel
theorem dX5_drip_28 : decode cX5_drip 28 = .ok (.invokevirtual 42, 3) := by decide +kernel
theorem dX5_drip_31 : decode cX5_drip 31 = .ok (.istore_n 3, 1) := by decide +kernel
theorem dX5_drip_32 : decode cX5_drip 32 = .ok (.aload_n 0, 1) := by decide +kernel
theorem dX5_drip_33 : decode cX5_drip 33 = .ok (.iload_n 1, 1) := by decide +kernel
theorem dX5_drip_34 : decode cX5_drip 34 = .ok (.iconst 5, 1) := by decide +kernel
theorem dX5_drip_35 : decode cX5_drip 35 = .ok (.invokevirtual 42, 3) := by decide +kernel
theorem dX5_drip_38 : decode cX5_drip 38 = .ok (.iconst 2, 1) := by decide +kernel
theorem dX5_drip_39 : decode cX5_drip 39 = .ok (.if_icmp .ge 22, 3) := by decide +kernel
theorem dX5_drip_42 : decode cX5_drip 42 = .ok (.aload_n 0, 1) := by decide +kernel
theorem dX5_drip_43 : decode cX5_drip 43 = .ok (.iload_n 1, 1) := by decide +kernel
theorem dX5_drip_44 : decode cX5_drip 44 = .ok (.iload_n 2, 1) := by decide +kernel
theorem dX5_drip_45 : decode cX5_drip 45 = .ok (.ifCond .eq 7, 3) := by decide +kernel
theorem dX5_drip_48 : decode cX5_drip 48 = .ok (.iconst 0, 1) := by decide +kernel
theorem dX5_drip_49 : decode cX5_drip 49 = .ok (.goto 4, 3) := by decide +kernel
theorem dX5_drip_52 : decode cX5_drip 52 = .ok (.iconst 1, 1) := by decide +kernel
theorem dX5_drip_53 : decode cX5_drip 53 = .ok (.invokevirtual 42, 3) := by decide +kernel
theorem dX5_drip_56 : decode cX5_drip 56 = .ok (.iconst 1, 1) := by decide +kernel
theorem dX5_drip_57 : decode cX5_drip 57 = .ok (.isub, 1) := by decide +kernel
theorem dX5_drip_58 : decode cX5_drip 58 = .ok (.goto 32, 3) := by decide +kernel
theorem dX5_drip_61 : decode cX5_drip 61 = .ok (.aload_n 0, 1) := by decide +kernel
theorem dX5_drip_62 : decode cX5_drip 62 = .ok (.iload_n 1, 1) := by decide +kernel
theorem dX5_drip_63 : decode cX5_drip 63 = .ok (.iload_n 2, 1) := by decide +kernel
theorem dX5_drip_64 : decode cX5_drip 64 = .ok (.ifCond .eq 7, 3) := by decide +kernel
theorem dX5_drip_67 : decode cX5_drip 67 = .ok (.iconst 0, 1) := by decide +kernel
theorem dX5_drip_68 : decode cX5_drip 68 = .ok (.goto 4, 3) := by decide +kernel
theorem dX5_drip_71 : decode cX5_drip 71 = .ok (.iconst 1, 1) := by decide +kernel
theorem dX5_drip_72 : decode cX5_drip 72 = .ok (.invokevirtual 42, 3) := by decide +kernel
theorem dX5_drip_75 : decode cX5_drip 75 = .ok (.aload_n 0, 1) := by decide +kernel
theorem dX5_drip_76 : decode cX5_drip 76 = .ok (.iload_n 1, 1) := by decide +kernel
theorem dX5_drip_77 : decode cX5_drip 77 = .ok (.iload_n 2, 1) := by decide +kernel
theorem dX5_drip_78 : decode cX5_drip 78 = .ok (.ifCond .eq 7, 3) := by decide +kernel
theorem dX5_drip_81 : decode cX5_drip 81 = .ok (.iconst 2, 1) := by decide +kernel
theorem dX5_drip_82 : decode cX5_drip 82 = .ok (.goto 4, 3) := by decide +kernel
theorem dX5_drip_85 : decode cX5_drip 85 = .ok (.iconst 3, 1) := by decide +kernel
theorem dX5_drip_86 : decode cX5_drip 86 = .ok (.invokevirtual 42, 3) := by decide +kernel
theorem dX5_drip_89 : decode cX5_drip 89 = .ok (.iadd, 1) := by decide +kernel
theorem dX5_drip_90 : decode cX5_drip 90 = .ok (.istore 4, 2) := by decide +kernel
theorem dX5_drip_92 : decode cX5_drip 92 = .ok (.iload 4, 2) := by decide +kernel
theorem dX5_drip_94 : decode cX5_drip 94 = .ok (.iconst 0, 1) := by decide +kernel
theorem dX5_drip_95 : decode cX5_drip 95 = .ok (.bipush 23, 2) := by decide +kernel
theorem dX5_drip_97 : decode cX5_drip 97 = .ok (.invokestatic 32, 3) := by decide +kernel
theorem dX5_drip_100 : decode cX5_drip 100 = .ok (.ifCond .ne 10, 3) := by decide +kernel
theorem dX5_drip_103 : decode cX5_drip 103 = .ok (.aload_n 0, 1) := by decide +kernel
theorem dX5_drip_104 : decode cX5_drip 104 = .ok (.getfield 25, 3) := by decide +kernel
theorem dX5_drip_107 : decode cX5_drip 107 = .ok (.iload_n 1, 1) := by decide +kernel
theorem dX5_drip_108 : decode cX5_drip 108 = .ok (.iaload, 1) := by decide +kernel
theorem dX5_drip_109 : decode cX5_drip 109 = .ok (.ireturn, 1) := by decide +kernel
theorem dX5_drip_110 : decode cX5_drip 110 = .ok (.aload_n 0, 1) := by decide +kernel
theorem dX5_drip_111 : decode cX5_drip 111 = .ok (.iload_n 1, 1) := by decide +kernel
theorem dX5_drip_112 : decode cX5_drip 112 = .ok (.iload_n 2, 1) := by decide +kernel
theorem dX5_drip_113 : decode cX5_drip 113 = .ok (.ifCond .eq 7, 3) := by decide +kernel
theorem dX5_drip_116 : decode cX5_drip 116 = .ok (.iconst 1, 1) := by decide +kernel
theorem dX5_drip_117 : decode cX5_drip 117 = .ok (.goto 4, 3) := by decide +kernel
theorem dX5_drip_120 : decode cX5_drip 120 = .ok (.iconst 0, 1) := by decide +kernel
theorem dX5_drip_121 : decode cX5_drip 121 = .ok (.invokevirtual 42, 3) := by decide +kernel
theorem dX5_drip_124 : decode cX5_drip 124 = .ok (.istore 5, 2) := by decide +kernel
theorem dX5_drip_126 : decode cX5_drip 126 = .ok (.iconst 0, 1) := by decide +kernel
theorem dX5_drip_127 : decode cX5_drip 127 = .ok (.istore 6, 2) := by decide +kernel
theorem dX5_drip_129 : decode cX5_drip 129 = .ok (.iload 6, 2) := by decide +kernel
theorem dX5_drip_131 : decode cX5_drip 131 = .ok (.iload_n 3, 1) := by decide +kernel
theorem dX5_drip_132 : decode cX5_drip 132 = .ok (.if_icmp .ge 78, 3) := by decide +kernel
theorem dX5_drip_135 : decode cX5_drip 135 = .ok (.aload_n 0, 1) := by decide +kernel
theorem dX5_drip_136 : decode cX5_drip 136 = .ok (.getfield 25, 3) := by decide +kernel
theorem dX5_drip_139 : decode cX5_drip 139 = .ok (.iload_n 1, 1) := by decide +kernel
theorem dX5_drip_140 : decode cX5_drip 140 = .ok (.iaload, 1) := by decide +kernel
theorem dX5_drip_141 : decode cX5_drip 141 = .ok (.iload_n 3, 1) := by decide +kernel
theorem dX5_drip_142 : decode cX5_drip 142 = .ok (.idiv, 1) := by decide +kernel
theorem dX5_drip_143 : decode cX5_drip 143 = .ok (.iload 6, 2) := by decide +kernel
theorem dX5_drip_145 : decode cX5_drip 145 = .ok (.aload_n 0, 1) := by decide +kernel
theorem dX5_drip_146 : decode cX5_drip 146 = .ok (.getfield 25, 3) := by decide +kernel
theorem dX5_drip_149 : decode cX5_drip 149 = .ok (.iload_n 1, 1) := by decide +kernel
theorem dX5_drip_150 : decode cX5_drip 150 = .ok (.iaload, 1) := by decide +kernel
theorem dX5_drip_151 : decode cX5_drip 151 = .ok (.iload_n 3, 1) := by decide +kernel
theorem dX5_drip_152 : decode cX5_drip 152 = .ok (.irem, 1) := by decide +kernel
theorem dX5_drip_153 : decode cX5_drip 153 = .ok (.if_icmp .ge 7, 3) := by decide +kernel
theorem dX5_drip_156 : decode cX5_drip 156 = .ok (.iconst 1, 1) := by decide +kernel
theorem dX5_drip_157 : decode cX5_drip 157 = .ok (.goto 4, 3) := by decide +kernel
theorem dX5_drip_160 : decode cX5_drip 160 = .ok (.iconst 0, 1) := by decide +kernel
theorem dX5_drip_161 : decode cX5_drip 161 = .ok (.iadd, 1) := by decide +kernel
theorem dX5_drip_162 : decode cX5_drip 162 = .ok (.istore 7, 2) := by decide +kernel
theorem dX5_drip_164 : decode cX5_drip 164 = .ok (.aload_n 0, 1) := by decide +kernel
theorem dX5_drip_165 : decode cX5_drip 165 = .ok (.iload_n 2, 1) := by decide +kernel
theorem dX5_drip_166 : decode cX5_drip 166 = .ok (.ifCond .eq 8, 3) := by decide +kernel
theorem dX5_drip_169 : decode cX5_drip 169 = .ok (.iload 4, 2) := by decide +kernel
theorem dX5_drip_171 : decode cX5_drip 171 = .ok (.goto 8, 3) := by decide +kernel
theorem dX5_drip_174 : decode cX5_drip 174 = .ok (.iload 5, 2) := by decide +kernel
theorem dX5_drip_176 : decode cX5_drip 176 = .ok (.iload 6, 2) := by decide +kernel
theorem dX5_drip_178 : decode cX5_drip 178 = .ok (.iadd, 1) := by decide +kernel
theorem dX5_drip_179 : decode cX5_drip 179 = .ok (.iload_n 2, 1) := by decide +kernel
theorem dX5_drip_180 : decode cX5_drip 180 = .ok (.ifCond .eq 11, 3) := by decide +kernel
theorem dX5_drip_183 : decode cX5_drip 183 = .ok (.iload 5, 2) := by decide +kernel
theorem dX5_drip_185 : decode cX5_drip 185 = .ok (.iload 6, 2) := by decide +kernel
theorem dX5_drip_187 : decode cX5_drip 187 = .ok (.iadd, 1) := by decide +kernel
theorem dX5_drip_188 : decode cX5_drip 188 = .ok (.goto 5, 3) := by decide +kernel
theorem dX5_drip_191 : decode cX5_drip 191 = .ok (.iload 4, 2) := by decide +kernel
theorem dX5_drip_193 : decode cX5_drip 193 = .ok (.aload_n 0, 1) := by decide +kernel
theorem dX5_drip_194 : decode cX5_drip 194 = .ok (.iload_n 1, 1) := by decide +kernel
theorem dX5_drip_195 : decode cX5_drip 195 = .ok (.iconst 4, 1) := by decide +kernel
theorem dX5_drip_196 : decode cX5_drip 196 = .ok (.invokevirtual 42, 3) := by decide +kernel
theorem dX5_drip_199 : decode cX5_drip 199 = .ok (.iload 7, 2) := by decide +kernel
theorem dX5_drip_201 : decode cX5_drip 201 = .ok (.invokevirtual 71, 3) := by decide +kernel
theorem dX5_drip_204 : decode cX5_drip 204 = .ok (.iinc 6 1, 3) := by decide +kernel
theorem dX5_drip_207 : decode cX5_drip 207 = .ok (.goto (-78), 3) := by decide +kernel
theorem dX5_drip_210 : decode cX5_drip 210 = .ok (.iconst 0, 1) := by decide +kernel
theorem dX5_drip_211 : decode cX5_drip 211 = .ok (.ireturn, 1) := by decide +kernel
theorem dX5_pour_0 : decode cX5_pour 0 = .ok (.iconst 0, 1) := by decide +kernel
theorem dX5_pour_1 : decode cX5_pour 1 = .ok (.istore_n 2, 1) := by decide +kernel
theorem dX5_pour_2 : decode cX5_pour 2 = .ok (.iload_n 2, 1) := by decide +kernel
theorem dX5_pour_3 : decode cX5_pour 3 = .ok (.sipush 576, 3) := by decide +kernel
theorem dX5_pour_6 : decode cX5_pour 6 = .ok (.if_icmp .ge 16, 3) := by decide +kernel
theorem dX5_pour_9 : decode cX5_pour 9 = .ok (.aload_n 0, 1) := by decide +kernel
theorem dX5_pour_10 : decode cX5_pour 10 = .ok (.getfield 22, 3) := by decide +kernel
theorem dX5_pour_13 : decode cX5_pour 13 = .ok (.iload_n 2, 1) := by decide +kernel
theorem dX5_pour_14 : decode cX5_pour 14 = .ok (.iconst 0, 1) := by decide +kernel
theorem dX5_pour_15 : decode cX5_pour 15 = .ok (.iastore, 1) := by decide +kernel
theorem dX5_pour_16 : decode cX5_pour 16 = .ok (.iinc 2 1, 3) := by decide +kernel
theorem dX5_pour_19 : decode cX5_pour 19 = .ok (.goto (-17), 3) := by decide +kernel
theorem dX5_pour_22 : decode cX5_pour 22 = .ok (.iconst 0, 1) := by decide +kernel
theorem dX5_pour_23 : decode cX5_pour 23 = .ok (.istore_n 2, 1) := by decide +kernel
theorem dX5_pour_24 : decode cX5_pour 24 = .ok (.iload_n 2, 1) := by decide +kernel
theorem dX5_pour_25 : decode cX5_pour 25 = .ok (.bipush 10, 2) := by decide +kernel
theorem dX5_pour_27 : decode cX5_pour 27 = .ok (.if_icmp .ge 16, 3) := by decide +kernel
theorem dX5_pour_30 : decode cX5_pour 30 = .ok (.aload_n 0, 1) := by decide +kernel
theorem dX5_pour_31 : decode cX5_pour 31 = .ok (.getfield 25, 3) := by decide +kernel
theorem dX5_pour_34 : decode cX5_pour 34 = .ok (.iload_n 2, 1) := by decide +kernel
theorem dX5_pour_35 : decode cX5_pour 35 = .ok (.iconst 0, 1) := by decide +kernel
theorem dX5_pour_36 : decode cX5_pour 36 = .ok (.iastore, 1) := by decide +kernel
theorem dX5_pour_37 : decode cX5_pour 37 = .ok (.iinc 2 1, 3) := by decide +kernel
theorem dX5_pour_40 : decode cX5_pour 40 = .ok (.goto (-16), 3) := by decide +kernel
theorem dX5_pour_43 : decode cX5_pour 43 = .ok (.iconst 0, 1) := by decide +kernel
theorem dX5_pour_44 : decode cX5_pour 44 = .ok (.istore_n 2, 1) := by decide +kernel
theorem dX5_pour_45 : decode cX5_pour 45 = .ok (.iload_n 2, 1) := by decide +kernel
theorem dX5_pour_46 : decode cX5_pour 46 = .ok (.sipush 576, 3) := by decide +kernel
theorem dX5_pour_49 : decode cX5_pour 49 = .ok (.if_icmp .ge 24, 3) := by decide +kernel
theorem dX5_pour_52 : decode cX5_pour 52 = .ok (.aload_n 0, 1) := by decide +kernel
theorem dX5_pour_53 : decode cX5_pour 53 = .ok (.iload_n 2, 1) := by decide +kernel
theorem dX5_pour_54 : decode cX5_pour 54 = .ok (.bipush 24, 2) := by decide +kernel
theorem dX5_pour_56 : decode cX5_pour 56 = .ok (.idiv, 1) := by decide +kernel
theorem dX5_pour_57 : decode cX5_pour 57 = .ok (.iload_n 2, 1) := by decide +kernel
theorem dX5_pour_58 : decode cX5_pour 58 = .ok (.bipush 24, 2) := by decide +kernel
theorem dX5_pour_60 : decode cX5_pour 60 = .ok (.irem, 1) := by decide +kernel
theorem dX5_pour_61 : decode cX5_pour 61 = .ok (.bipush 10, 2) := by decide +kernel
theorem dX5_pour_63 : decode cX5_pour 63 = .ok (.iload_n 1, 1) := by decide +kernel
theorem dX5_pour_64 : decode cX5_pour 64 = .ok (.invokevirtual 71, 3) := by decide +kernel
theorem dX5_pour_67 : decode cX5_pour 67 = .ok (.iinc 2 1, 3) := by decide +kernel
theorem dX5_pour_70 : decode cX5_pour 70 = .ok (.goto (-25), 3) := by decide +kernel
theorem dX5_pour_73 : decode cX5_pour 73 = .ok (.iconst 0, 1) := by decide +kernel
theorem dX5_pour_74 : decode cX5_pour 74 = .ok (.istore_n 2, 1) := by decide +kernel
theorem dX5_pour_75 : decode cX5_pour 75 = .ok (.aload_n 0, 1) := by decide +kernel
theorem dX5_pour_76 : decode cX5_pour 76 = .ok (.iconst (-1), 1) := by decide +kernel
theorem dX5_pour_77 : decode cX5_pour 77 = .ok (.invokevirtual 63, 3) := by decide +kernel
theorem dX5_pour_80 : decode cX5_pour 80 = .ok (.istore_n 3, 1) := by decide +kernel
theorem dX5_pour_81 : decode cX5_pour 81 = .ok (.iload_n 3, 1) := by decide +kernel
theorem dX5_pour_82 : decode cX5_pour 82 = .ok (.iconst (-1), 1) := by decide +kernel
theorem dX5_pour_83 : decode cX5_pour 83 = .ok (.if_icmp .eq 20, 3) := by decide +kernel
theorem dX5_pour_86 : decode cX5_pour 86 = .ok (.iload_n 2, 1) := by decide +kernel
theorem dX5_pour_87 : decode cX5_pour 87 = .ok (.aload_n 0, 1) := by decide +kernel
theorem dX5_pour_88 : decode cX5_pour 88 = .ok (.iload_n 3, 1) := by decide +kernel
theorem dX5_pour_89 : decode cX5_pour 89 = .ok (.invokevirtual 75, 3) := by decide +kernel
theorem dX5_pour_92 : decode cX5_pour 92 = .ok (.iadd, 1) := by decide +kernel
theorem dX5_pour_93 : decode cX5_pour 93 = .ok (.istore_n 2, 1) := by decide +kernel
theorem dX5_pour_94 : decode cX5_pour 94 = .ok (.aload_n 0, 1) := by decide +kernel
theorem dX5_pour_95 : decode cX5_pour 95 = .ok (.iload_n 3, 1) := by decide +kernel
theorem dX5_pour_96 : decode cX5_pour 96 = .ok (.invokevirtual 63, 3) := by decide +kernel
theorem dX5_pour_99 : decode cX5_pour 99 = .ok (.istore_n 3, 1) := by decide +kernel
theorem dX5_pour_100 : decode cX5_pour 100 = .ok (.goto (-19), 3) := by decide +kernel
theorem dX5_pour_103 : decode cX5_pour 103 = .ok (.iload_n 2, 1) := by decide +kernel
theorem dX5_pour_104 : decode cX5_pour 104 = .ok (.ireturn, 1) := by decide +kernel
theorem dX5_hang_0 : decode cX5_hang 0 = .ok (.aload_n 0, 1) := by decide +kernel
theorem dX5_hang_1 : decode cX5_hang 1 = .ok (.iconst 0, 1) := by decide +kernel
theorem dX5_hang_2 : decode cX5_hang 2 = .ok (.putfield 28, 3) := by decide +kernel
theorem dX5_hang_5 : decode cX5_hang 5 = .ok (.iload_n 3, 1) := by decide +kernel
theorem dX5_hang_6 : decode cX5_hang 6 = .ok (.iconst 1, 1) := by decide +kernel
theorem dX5_hang_7 : decode cX5_hang 7 = .ok (.bipush 24, 2) := by decide +kernel
theorem dX5_hang_9 : decode cX5_hang 9 = .ok (.invokestatic 32, 3) := by decide +kernel
theorem dX5_hang_12 : decode cX5_hang 12 = .ok (.ifCond .eq 35, 3) := by decide +kernel
theorem dX5_hang_15 : decode cX5_hang 15 = .ok (.iload 4, 2) := by decide +kernel
theorem dX5_hang_17 : decode cX5_hang 17 = .ok (.iconst 1, 1) := by decide +kernel
theorem dX5_hang_18 : decode cX5_hang 18 = .ok (.bipush 24, 2) := by decide +kernel
theorem dX5_hang_20 : decode cX5_hang 20 = .ok (.invokestatic 32, 3) := by decide +kernel
theorem dX5_hang_23 : decode cX5_hang 23 = .ok (.ifCond .eq 24, 3) := by decide +kernel
theorem dX5_hang_26 : decode cX5_hang 26 = .ok (.iload 5, 2) := by decide +kernel
theorem dX5_hang_28 : decode cX5_hang 28 = .ok (.iconst 1, 1) := by decide +kernel
theorem dX5_hang_29 : decode cX5_hang 29 = .ok (.bipush 9, 2) := by decide +kernel
theorem dX5_hang_31 : decode cX5_hang 31 = .ok (.invokestatic 32, 3) := by decide +kernel
theorem dX5_hang_34 : decode cX5_hang 34 = .ok (.ifCond .eq 13, 3) := by decide +kernel
theorem dX5_hang_37 : decode cX5_hang 37 = .ok (.iload 6, 2) := by decide +kernel
theorem dX5_hang_39 : decode cX5_hang 39 = .ok (.iconst 0, 1) := by decide +kernel
theorem dX5_hang_40 : decode cX5_hang 40 = .ok (.iconst 3, 1) := by decide +kernel
theorem dX5_hang_41 : decode cX5_hang 41 = .ok (.invokestatic 32, 3) := by decide +kernel
theorem dX5_hang_44 : decode cX5_hang 44 = .ok (.ifCond .ne 9, 3) := by decide +kernel
theorem dX5_hang_47 : decode cX5_hang 47 = .ok (.aload_n 0, 1) := by decide +kernel
theorem dX5_hang_48 : decode cX5_hang 48 = .ok (.iconst 1, 1) := by decide +kernel
theorem dX5_hang_49 : decode cX5_hang 49 = .ok (.invokevirtual 78, 3) := by decide +kernel
theorem dX5_hang_52 : decode cX5_hang 52 = .ok (.ireturn, 1) := by decide +kernel
theorem dX5_hang_53 : decode cX5_hang 53 = .ok (.iload_n 1, 1) := by decide +kernel
theorem dX5_hang_54 : decode cX5_hang 54 = .ok (.iload_n 2, 1) := by decide +kernel
theorem dX5_hang_55 : decode cX5_hang 55 = .ok (.iload_n 3, 1) := by decide +kernel
theorem dX5_hang_56 : decode cX5_hang 56 = .ok (.iload 4, 2) := by decide +kernel
theorem dX5_hang_58 : decode cX5_hang 58 = .ok (.invokestatic 81, 3) := by decide +kernel
theorem dX5_hang_61 : decode cX5_hang 61 = .ok (.ifCond .ne 9, 3) := by decide +kernel
theorem dX5_hang_64 : decode cX5_hang 64 = .ok (.aload_n 0, 1) := by decide +kernel
theorem dX5_hang_65 : decode cX5_hang 65 = .ok (.iconst 2, 1) := by decide +kernel
theorem dX5_hang_66 : decode cX5_hang 66 = .ok (.invokevirtual 78, 3) := by decide +kernel
theorem dX5_hang_69 : decode cX5_hang 69 = .ok (.ireturn, 1) := by decide +kernel
theorem dX5_hang_70 : decode cX5_hang 70 = .ok (.aload_n 0, 1) := by decide +kernel
theorem dX5_hang_71 : decode cX5_hang 71 = .ok (.getfield 36, 3) := by decide +kernel
theorem dX5_hang_74 : decode cX5_hang 74 = .ok (.bipush 10, 2) := by decide +kernel
theorem dX5_hang_76 : decode cX5_hang 76 = .ok (.if_icmp .ne 9, 3) := by decide +kernel
theorem dX5_hang_79 : decode cX5_hang 79 = .ok (.aload_n 0, 1) := by decide +kernel
theorem dX5_hang_80 : decode cX5_hang 80 = .ok (.iconst 3, 1) := by decide +kernel
theorem dX5_hang_81 : decode cX5_hang 81 = .ok (.invokevirtual 78, 3) := by decide +kernel
theorem dX5_hang_84 : decode cX5_hang 84 = .ok (.ireturn, 1) := by decide +kernel
theorem dX5_hang_85 : decode cX5_hang 85 = .ok (.bipush 8, 2) := by decide +kernel
theorem dX5_hang_87 : decode cX5_hang 87 = .ok (.newarray .int, 2) := by decide +kernel
theorem dX5_hang_89 : decode cX5_hang 89 = .ok (.dup, 1) := by decide +kernel
theorem dX5_hang_90 : decode cX5_hang 90 = .ok (.iconst 0, 1) := by decide +kernel
theorem dX5_hang_91 : decode cX5_hang 91 = .ok (.iload_n 1, 1) := by decide +kernel
theorem dX5_hang_92 : decode cX5_hang 92 = .ok (.iastore, 1) := by decide +kernel
theorem dX5_hang_93 : decode cX5_hang 93 = .ok (.dup, 1) := by decide +kernel
theorem dX5_hang_94 : decode cX5_hang 94 = .ok (.iconst 1, 1) := by decide +kernel
theorem dX5_hang_95 : decode cX5_hang 95 = .ok (.iload_n 2, 1) := by decide +kernel
theorem dX5_hang_96 : decode cX5_hang 96 = .ok (.iastore, 1) := by decide +kernel
theorem dX5_hang_97 : decode cX5_hang 97 = .ok (.dup, 1) := by decide +kernel
theorem dX5_hang_98 : decode cX5_hang 98 = .ok (.iconst 2, 1) := by decide +kernel
theorem dX5_hang_99 : decode cX5_hang 99 = .ok (.iload_n 3, 1) := by decide +kernel
theorem dX5_hang_100 : decode cX5_hang 100 = .ok (.iastore, 1) := by decide +kernel
theorem dX5_hang_101 : decode cX5_hang 101 = .ok (.dup, 1) := by decide +kernel
theorem dX5_hang_102 : decode cX5_hang 102 = .ok (.iconst 3, 1) := by decide +kernel
theorem dX5_hang_103 : decode cX5_hang 103 = .ok (.iload 4, 2) := by decide +kernel
theorem dX5_hang_105 : decode cX5_hang 105 = .ok (.iastore, 1) := by decide +kernel
theorem dX5_hang_106 : decode cX5_hang 106 = .ok (.dup, 1) := by decide +kernel
theorem dX5_hang_107 : decode cX5_hang 107 = .ok (.iconst 4, 1) := by decide +kernel
theorem dX5_hang_108 : decode cX5_hang 108 = .ok (.iload 5, 2) := by decide +kernel
theorem dX5_hang_110 : decode cX5_hang 110 = .ok (.iastore, 1) := by decide +kernel
theorem dX5_hang_111 : decode cX5_hang 111 = .ok (.dup, 1) := by decide +kernel
theorem dX5_hang_112 : decode cX5_hang 112 = .ok (.iconst 5, 1) := by decide +kernel
theorem dX5_hang_113 : decode cX5_hang 113 = .ok (.iload 6, 2) := by decide +kernel
theorem dX5_hang_115 : decode cX5_hang 115 = .ok (.iastore, 1) := by decide +kernel
theorem dX5_hang_116 : decode cX5_hang 116 = .ok (.dup, 1) := by decide +kernel
theorem dX5_hang_117 : decode cX5_hang 117 = .ok (.bipush 6, 2) := by decide +kernel
theorem dX5_hang_119 : decode cX5_hang 119 = .ok (.iconst 1, 1) := by decide +kernel
theorem dX5_hang_120 : decode cX5_hang 120 = .ok (.iastore, 1) := by decide +kernel
theorem dX5_hang_121 : decode cX5_hang 121 = .ok (.dup, 1) := by decide +kernel
theorem dX5_hang_122 : decode cX5_hang 122 = .ok (.bipush 7, 2) := by decide +kernel
theorem dX5_hang_124 : decode cX5_hang 124 = .ok (.iconst 0, 1) := by decide +kernel
theorem dX5_hang_125 : decode cX5_hang 125 = .ok (.iastore, 1) := by decide +kernel
theorem dX5_hang_126 : decode cX5_hang 126 = .ok (.astore 7, 2) := by decide +kernel
theorem dX5_hang_128 : decode cX5_hang 128 = .ok (.aload 7, 2) := by decide +kernel
theorem dX5_hang_130 : decode cX5_hang 130 = .ok (.iconst 0, 1) := by decide +kernel
theorem dX5_hang_131 : decode cX5_hang 131 = .ok (.aload_n 0, 1) := by decide +kernel
theorem dX5_hang_132 : decode cX5_hang 132 = .ok (.getfield 9, 3) := by decide +kernel
theorem dX5_hang_135 : decode cX5_hang 135 = .ok (.bipush 8, 2) := by decide +kernel
theorem dX5_hang_137 : decode cX5_hang 137 = .ok (.aload_n 0, 1) := by decide +kernel
theorem dX5_hang_138 : decode cX5_hang 138 = .ok (.getfield 36, 3) := by decide +kernel
theorem dX5_hang_141 : decode cX5_hang 141 = .ok (.imul, 1) := by decide +kernel
theorem dX5_hang_142 : decode cX5_hang 142 = .ok (.bipush 8, 2) := by decide +kernel
theorem dX5_hang_144 : decode cX5_hang 144 = .ok (.invokestatic 85, 3) := by decide +kernel
theorem dX5_hang_147 : decode cX5_hang 147 = .ok (.aload_n 0, 1) := by decide +kernel
theorem dX5_hang_148 : decode cX5_hang 148 = .ok (.dup, 1) := by decide +kernel
theorem dX5_hang_149 : decode cX5_hang 149 = .ok (.getfield 36, 3) := by decide +kernel
theorem dX5_hang_152 : decode cX5_hang 152 = .ok (.iconst 1, 1) := by decide +kernel
theorem dX5_hang_153 : decode cX5_hang 153 = .ok (.iadd, 1) := by decide +kernel
theorem dX5_hang_154 : decode cX5_hang 154 = .ok (.putfield 36, 3) := by decide +kernel
theorem dX5_hang_157 : decode cX5_hang 157 = .ok (.aload_n 0, 1) := by decide +kernel
theorem dX5_hang_158 : decode cX5_hang 158 = .ok (.getfield 36, 3) := by decide +kernel
theorem dX5_hang_161 : decode cX5_hang 161 = .ok (.iconst 1, 1) := by decide +kernel
theorem dX5_hang_162 : decode cX5_hang 162 = .ok (.isub, 1) := by decide +kernel
theorem dX5_hang_163 : decode cX5_hang 163 = .ok (.ireturn, 1) := by decide +kernel
theorem dX5_roll_0 : decode cX5_roll 0 = .ok (.aload_n 0, 1) := by decide +kernel
theorem dX5_roll_1 : decode cX5_roll 1 = .ok (.aload_n 0, 1) := by decide +kernel
theorem dX5_roll_2 : decode cX5_roll 2 = .ok (.iload_n 1, 1) := by decide +kernel
theorem dX5_roll_3 : decode cX5_roll 3 = .ok (.invokevirtual 91, 3) := by decide +kernel
theorem dX5_roll_6 : decode cX5_roll 6 = .ok (.ifCond .eq 7, 3) := by decide +kernel
theorem dX5_roll_9 : decode cX5_roll 9 = .ok (.iconst 0, 1) := by decide +kernel
theorem dX5_roll_10 : decode cX5_roll 10 = .ok (.goto 4, 3) := by decide +kernel
theorem dX5_roll_13 : decode cX5_roll 13 = .ok (.iconst 1, 1) := by decide +kernel
theorem dX5_roll_14 : decode cX5_roll 14 = .ok (.putfield 28, 3) := by decide +kernel
theorem dX5_roll_17 : decode cX5_roll 17 = .ok (.aload_n 0, 1) := by decide +kernel
theorem dX5_roll_18 : decode cX5_roll 18 = .ok (.getfield 28, 3) := by decide +kernel
theorem dX5_roll_21 : decode cX5_roll 21 = .ok (.ifCond .eq 5, 3) := by decide +kernel
theorem dX5_roll_24 : decode cX5_roll 24 = .ok (.iconst 0, 1) := by decide +kernel
theorem dX5_roll_25 : decode cX5_roll 25 = .ok (.ireturn, 1) := by decide +kernel
theorem dX5_roll_26 : decode cX5_roll 26 = .ok (.aload_n 0, 1) := by decide +kernel
theorem dX5_roll_27 : decode cX5_roll 27 = .ok (.getfield 9, 3) := by decide +kernel
theorem dX5_roll_30 : decode cX5_roll 30 = .ok (.bipush 8, 2) := by decide +kernel
theorem dX5_roll_32 : decode cX5_roll 32 = .ok (.iload_n 1, 1) := by decide +kernel
theorem dX5_roll_33 : decode cX5_roll 33 = .ok (.imul, 1) := by decide +kernel
theorem dX5_roll_34 : decode cX5_roll 34 = .ok (.bipush 6, 2) := by decide +kernel
theorem dX5_roll_36 : decode cX5_roll 36 = .ok (.iadd, 1) := by decide +kernel
theorem dX5_roll_37 : decode cX5_roll 37 = .ok (.iconst 1, 1) := by decide +kernel
theorem dX5_roll_38 : decode cX5_roll 38 = .ok (.aload_n 0, 1) := by decide +kernel
theorem dX5_roll_39 : decode cX5_roll 39 = .ok (.iload_n 1, 1) := by decide +kernel
theorem dX5_roll_40 : decode cX5_roll 40 = .ok (.bipush 6, 2) := by decide +kernel
theorem dX5_roll_42 : decode cX5_roll 42 = .ok (.invokevirtual 42, 3) := by decide +kernel
theorem dX5_roll_45 : decode cX5_roll 45 = .ok (.isub, 1) := by decide +kernel
theorem dX5_roll_46 : decode cX5_roll 46 = .ok (.iastore, 1) := by decide +kernel
theorem dX5_roll_47 : decode cX5_roll 47 = .ok (.aload_n 0, 1) := by decide +kernel
theorem dX5_roll_48 : decode cX5_roll 48 = .ok (.iload_n 1, 1) := by decide +kernel
theorem dX5_roll_49 : decode cX5_roll 49 = .ok (.invokevirtual 46, 3) := by decide +kernel
theorem dX5_roll_52 : decode cX5_roll 52 = .ok (.ireturn, 1) := by decide +kernel
theorem dX5_move_0 : decode cX5_move 0 = .ok (.aload_n 0, 1) := by decide +kernel
theorem dX5_move_1 : decode cX5_move 1 = .ok (.iconst 0, 1) := by decide +kernel
theorem dX5_move_2 : decode cX5_move 2 = .ok (.putfield 28, 3) := by decide +kernel
theorem dX5_move_5 : decode cX5_move 5 = .ok (.aload_n 0, 1) := by decide +kernel
theorem dX5_move_6 : decode cX5_move 6 = .ok (.iload_n 1, 1) := by decide +kernel
theorem dX5_move_7 : decode cX5_move 7 = .ok (.invokevirtual 91, 3) := by decide +kernel
theorem dX5_move_10 : decode cX5_move 10 = .ok (.ifCond .eq 23, 3) := by decide +kernel
theorem dX5_move_13 : decode cX5_move 13 = .ok (.iload_n 2, 1) := by decide +kernel
theorem dX5_move_14 : decode cX5_move 14 = .ok (.iload_n 3, 1) := by decide +kernel
theorem dX5_move_15 : decode cX5_move 15 = .ok (.aload_n 0, 1) := by decide +kernel
theorem dX5_move_16 : decode cX5_move 16 = .ok (.iload_n 1, 1) := by decide +kernel
theorem dX5_move_17 : decode cX5_move 17 = .ok (.iconst 2, 1) := by decide +kernel
theorem dX5_move_18 : decode cX5_move 18 = .ok (.invokevirtual 42, 3) := by decide +kernel
theorem dX5_move_21 : decode cX5_move 21 = .ok (.aload_n 0, 1) := by decide +kernel
theorem dX5_move_22 : decode cX5_move 22 = .ok (.iload_n 1, 1) := by decide +kernel
theorem dX5_move_23 : decode cX5_move 23 = .ok (.iconst 3, 1) := by decide +kernel
theorem dX5_move_24 : decode cX5_move 24 = .ok (.invokevirtual 42, 3) := by decide +kernel
theorem dX5_move_27 : decode cX5_move 27 = .ok (.invokestatic 81, 3) := by decide +kernel
theorem dX5_move_30 : decode cX5_move 30 = .ok (.ifCond .ne 9, 3) := by decide +kernel
theorem dX5_move_33 : decode cX5_move 33 = .ok (.aload_n 0, 1) := by decide +kernel
theorem dX5_move_34 : decode cX5_move 34 = .ok (.iconst 1, 1) := by decide +kernel
theorem dX5_move_35 : decode cX5_move 35 = .ok (.invokevirtual 78, 3) := by decide +kernel
theorem dX5_move_38 : decode cX5_move 38 = .ok (.ireturn, 1) := by decide +kernel
theorem dX5_move_39 : decode cX5_move 39 = .ok (.aload_n 0, 1) := by decide +kernel
theorem dX5_move_40 : decode cX5_move 40 = .ok (.getfield 9, 3) := by decide +kernel
theorem dX5_move_43 : decode cX5_move 43 = .ok (.bipush 8, 2) := by decide +kernel
theorem dX5_move_45 : decode cX5_move 45 = .ok (.iload_n 1, 1) := by decide +kernel
theorem dX5_move_46 : decode cX5_move 46 = .ok (.imul, 1) := by decide +kernel
theorem dX5_move_47 : decode cX5_move 47 = .ok (.iconst 0, 1) := by decide +kernel
theorem dX5_move_48 : decode cX5_move 48 = .ok (.iadd, 1) := by decide +kernel
theorem dX5_move_49 : decode cX5_move 49 = .ok (.iload_n 2, 1) := by decide +kernel
theorem dX5_move_50 : decode cX5_move 50 = .ok (.iastore, 1) := by decide +kernel
theorem dX5_move_51 : decode cX5_move 51 = .ok (.aload_n 0, 1) := by decide +kernel
theorem dX5_move_52 : decode cX5_move 52 = .ok (.getfield 9, 3) := by decide +kernel
theorem dX5_move_55 : decode cX5_move 55 = .ok (.bipush 8, 2) := by decide +kernel
theorem dX5_move_57 : decode cX5_move 57 = .ok (.iload_n 1, 1) := by decide +kernel
theorem dX5_move_58 : decode cX5_move 58 = .ok (.imul, 1) := by decide +kernel
theorem dX5_move_59 : decode cX5_move 59 = .ok (.iconst 1, 1) := by decide +kernel
theorem dX5_move_60 : decode cX5_move 60 = .ok (.iadd, 1) := by decide +kernel
theorem dX5_move_61 : decode cX5_move 61 = .ok (.iload_n 3, 1) := by decide +kernel
theorem dX5_move_62 : decode cX5_move 62 = .ok (.iastore, 1) := by decide +kernel
theorem dX5_move_63 : decode cX5_move 63 = .ok (.aload_n 0, 1) := by decide +kernel
theorem dX5_move_64 : decode cX5_move 64 = .ok (.iconst 3, 1) := by decide +kernel
theorem dX5_move_65 : decode cX5_move 65 = .ok (.invokevirtual 94, 3) := by decide +kernel
theorem dX5_move_68 : decode cX5_move 68 = .ok (.ireturn, 1) := by decide +kernel
theorem dX5_take_0 : decode cX5_take 0 = .ok (.aload_n 0, 1) := by decide +kernel
theorem dX5_take_1 : decode cX5_take 1 = .ok (.iconst 0, 1) := by decide +kernel
theorem dX5_take_2 : decode cX5_take 2 = .ok (.putfield 28, 3) := by decide +kernel
theorem dX5_take_5 : decode cX5_take 5 = .ok (.aload_n 0, 1) := by decide +kernel
theorem dX5_take_6 : decode cX5_take 6 = .ok (.iload_n 1, 1) := by decide +kernel
theorem dX5_take_7 : decode cX5_take 7 = .ok (.invokevirtual 91, 3) := by decide +kernel
theorem dX5_take_10 : decode cX5_take 10 = .ok (.ifCond .ne 9, 3) := by decide +kernel
theorem dX5_take_13 : decode cX5_take 13 = .ok (.aload_n 0, 1) := by decide +kernel
theorem dX5_take_14 : decode cX5_take 14 = .ok (.iconst 1, 1) := by decide +kernel
theorem dX5_take_15 : decode cX5_take 15 = .ok (.invokevirtual 78, 3) := by decide +kernel
theorem dX5_take_18 : decode cX5_take 18 = .ok (.ireturn, 1) := by decide +kernel
theorem dX5_take_19 : decode cX5_take 19 = .ok (.aload_n 0, 1) := by decide +kernel
theorem dX5_take_20 : decode cX5_take 20 = .ok (.dup, 1) := by decide +kernel
theorem dX5_take_21 : decode cX5_take 21 = .ok (.getfield 36, 3) := by decide +kernel
theorem dX5_take_24 : decode cX5_take 24 = .ok (.iconst 1, 1) := by decide +kernel
theorem dX5_take_25 : decode cX5_take 25 = .ok (.isub, 1) := by decide +kernel
theorem dX5_take_26 : decode cX5_take 26 = .ok (.putfield 36, 3) := by decide +kernel
theorem dX5_take_29 : decode cX5_take 29 = .ok (.bipush 8, 2) := by decide +kernel
theorem dX5_take_31 : decode cX5_take 31 = .ok (.iload_n 1, 1) := by decide +kernel
theorem dX5_take_32 : decode cX5_take 32 = .ok (.imul, 1) := by decide +kernel
theorem dX5_take_33 : decode cX5_take 33 = .ok (.istore_n 2, 1) := by decide +kernel
theorem dX5_take_34 : decode cX5_take 34 = .ok (.iload_n 2, 1) := by decide +kernel
theorem dX5_take_35 : decode cX5_take 35 = .ok (.bipush 8, 2) := by decide +kernel
theorem dX5_take_37 : decode cX5_take 37 = .ok (.aload_n 0, 1) := by decide +kernel
theorem dX5_take_38 : decode cX5_take 38 = .ok (.getfield 36, 3) := by decide +kernel
theorem dX5_take_41 : decode cX5_take 41 = .ok (.imul, 1) := by decide +kernel
theorem dX5_take_42 : decode cX5_take 42 = .ok (.if_icmp .ge 24, 3) := by decide +kernel
theorem dX5_take_45 : decode cX5_take 45 = .ok (.aload_n 0, 1) := by decide +kernel
theorem dX5_take_46 : decode cX5_take 46 = .ok (.getfield 9, 3) := by decide +kernel
theorem dX5_take_49 : decode cX5_take 49 = .ok (.iload_n 2, 1) := by decide +kernel
theorem dX5_take_50 : decode cX5_take 50 = .ok (.aload_n 0, 1) := by decide +kernel
theorem dX5_take_51 : decode cX5_take 51 = .ok (.getfield 9, 3) := by decide +kernel
theorem dX5_take_54 : decode cX5_take 54 = .ok (.iload_n 2, 1) := by decide +kernel
theorem dX5_take_55 : decode cX5_take 55 = .ok (.bipush 8, 2) := by decide +kernel
theorem dX5_take_57 : decode cX5_take 57 = .ok (.iadd, 1) := by decide +kernel
theorem dX5_take_58 : decode cX5_take 58 = .ok (.iaload, 1) := by decide +kernel
theorem dX5_take_59 : decode cX5_take 59 = .ok (.iastore, 1) := by decide +kernel
theorem dX5_take_60 : decode cX5_take 60 = .ok (.iinc 2 1, 3) := by decide +kernel
theorem dX5_take_63 : decode cX5_take 63 = .ok (.goto (-29), 3) := by decide +kernel
theorem dX5_take_66 : decode cX5_take 66 = .ok (.aload_n 0, 1) := by decide +kernel
theorem dX5_take_67 : decode cX5_take 67 = .ok (.getfield 36, 3) := by decide +kernel
theorem dX5_take_70 : decode cX5_take 70 = .ok (.ireturn, 1) := by decide +kernel
theorem dX5_stall_0 : decode cX5_stall 0 = .ok (.aload_n 0, 1) := by decide +kernel
theorem dX5_stall_1 : decode cX5_stall 1 = .ok (.iconst 0, 1) := by decide +kernel
theorem dX5_stall_2 : decode cX5_stall 2 = .ok (.putfield 28, 3) := by decide +kernel
theorem dX5_stall_5 : decode cX5_stall 5 = .ok (.iload_n 1, 1) := by decide +kernel
theorem dX5_stall_6 : decode cX5_stall 6 = .ok (.iload_n 2, 1) := by decide +kernel
theorem dX5_stall_7 : decode cX5_stall 7 = .ok (.invokestatic 97, 3) := by decide +kernel
theorem dX5_stall_10 : decode cX5_stall 10 = .ok (.ifCond .ne 9, 3) := by decide +kernel
theorem dX5_stall_13 : decode cX5_stall 13 = .ok (.aload_n 0, 1) := by decide +kernel
theorem dX5_stall_14 : decode cX5_stall 14 = .ok (.iconst 1, 1) := by decide +kernel
theorem dX5_stall_15 : decode cX5_stall 15 = .ok (.invokevirtual 78, 3) := by decide +kernel
theorem dX5_stall_18 : decode cX5_stall 18 = .ok (.ireturn, 1) := by decide +kernel
theorem dX5_stall_19 : decode cX5_stall 19 = .ok (.aload_n 0, 1) := by decide +kernel
theorem dX5_stall_20 : decode cX5_stall 20 = .ok (.getfield 39, 3) := by decide +kernel
theorem dX5_stall_23 : decode cX5_stall 23 = .ok (.bipush 8, 2) := by decide +kernel
theorem dX5_stall_25 : decode cX5_stall 25 = .ok (.if_icmp .ge 7, 3) := by decide +kernel
theorem dX5_stall_28 : decode cX5_stall 28 = .ok (.iconst 1, 1) := by decide +kernel
theorem dX5_stall_29 : decode cX5_stall 29 = .ok (.goto 4, 3) := by decide +kernel
theorem dX5_stall_32 : decode cX5_stall 32 = .ok (.iconst 0, 1) := by decide +kernel
theorem dX5_stall_33 : decode cX5_stall 33 = .ok (.istore_n 3, 1) := by decide +kernel
theorem dX5_stall_34 : decode cX5_stall 34 = .ok (.iconst 0, 1) := by decide +kernel
theorem dX5_stall_35 : decode cX5_stall 35 = .ok (.istore 4, 2) := by decide +kernel
theorem dX5_stall_37 : decode cX5_stall 37 = .ok (.iload 4, 2) := by decide +kernel
theorem dX5_stall_39 : decode cX5_stall 39 = .ok (.aload_n 0, 1) := by decide +kernel
theorem dX5_stall_40 : decode cX5_stall 40 = .ok (.getfield 39, 3) := by decide +kernel
theorem dX5_stall_43 : decode cX5_stall 43 = .ok (.if_icmp .ge 33, 3) := by decide +kernel
theorem dX5_stall_46 : decode cX5_stall 46 = .ok (.iload_n 3, 1) := by decide +kernel
theorem dX5_stall_47 : decode cX5_stall 47 = .ok (.aload_n 0, 1) := by decide +kernel
theorem dX5_stall_48 : decode cX5_stall 48 = .ok (.getfield 13, 3) := by decide +kernel
theorem dX5_stall_51 : decode cX5_stall 51 = .ok (.iload 4, 2) := by decide +kernel
theorem dX5_stall_53 : decode cX5_stall 53 = .ok (.iaload, 1) := by decide +kernel
theorem dX5_stall_54 : decode cX5_stall 54 = .ok (.bipush 24, 2) := by decide +kernel
theorem dX5_stall_56 : decode cX5_stall 56 = .ok (.iload_n 1, 1) := by decide +kernel
theorem dX5_stall_57 : decode cX5_stall 57 = .ok (.imul, 1) := by decide +kernel
theorem dX5_stall_58 : decode cX5_stall 58 = .ok (.iload_n 2, 1) := by decide +kernel
theorem dX5_stall_59 : decode cX5_stall 59 = .ok (.iadd, 1) := by decide +kernel
theorem dX5_stall_60 : decode cX5_stall 60 = .ok (.if_icmp .eq 7, 3) := by decide +kernel
theorem dX5_stall_63 : decode cX5_stall 63 = .ok (.iconst 1, 1) := by decide +kernel
theorem dX5_stall_64 : decode cX5_stall 64 = .ok (.goto 4, 3) := by decide +kernel
theorem dX5_stall_67 : decode cX5_stall 67 = .ok (.iconst 0, 1) := by decide +kernel
theorem dX5_stall_68 : decode cX5_stall 68 = .ok (.iand, 1) := by decide +kernel
theorem dX5_stall_69 : decode cX5_stall 69 = .ok (.istore_n 3, 1) := by decide +kernel
theorem dX5_stall_70 : decode cX5_stall 70 = .ok (.iinc 4 1, 3) := by decide +kernel
theorem dX5_stall_73 : decode cX5_stall 73 = .ok (.goto (-36), 3) := by decide +kernel
theorem dX5_stall_76 : decode cX5_stall 76 = .ok (.iload_n 3, 1) := by decide +kernel
theorem dX5_stall_77 : decode cX5_stall 77 = .ok (.ifCond .ne 9, 3) := by decide +kernel
theorem dX5_stall_80 : decode cX5_stall 80 = .ok (.aload_n 0, 1) := by decide +kernel
theorem dX5_stall_81 : decode cX5_stall 81 = .ok (.iconst 2, 1) := by decide +kernel
theorem dX5_stall_82 : decode cX5_stall 82 = .ok (.invokevirtual 78, 3) := by decide +kernel
theorem dX5_stall_85 : decode cX5_stall 85 = .ok (.ireturn, 1) := by decide +kernel
theorem dX5_stall_86 : decode cX5_stall 86 = .ok (.aload_n 0, 1) := by decide +kernel
theorem dX5_stall_87 : decode cX5_stall 87 = .ok (.getfield 13, 3) := by decide +kernel
theorem dX5_stall_90 : decode cX5_stall 90 = .ok (.aload_n 0, 1) := by decide +kernel
theorem dX5_stall_91 : decode cX5_stall 91 = .ok (.getfield 39, 3) := by decide +kernel
theorem dX5_stall_94 : decode cX5_stall 94 = .ok (.bipush 24, 2) := by decide +kernel
theorem dX5_stall_96 : decode cX5_stall 96 = .ok (.iload_n 1, 1) := by decide +kernel
theorem dX5_stall_97 : decode cX5_stall 97 = .ok (.imul, 1) := by decide +kernel
theorem dX5_stall_98 : decode cX5_stall 98 = .ok (.iload_n 2, 1) := by decide +kernel
theorem dX5_stall_99 : decode cX5_stall 99 = .ok (.iadd, 1) := by decide +kernel
theorem dX5_stall_100 : decode cX5_stall 100 = .ok (.iastore, 1) := by decide +kernel
theorem dX5_stall_101 : decode cX5_stall 101 = .ok (.aload_n 0, 1) := by decide +kernel
theorem dX5_stall_102 : decode cX5_stall 102 = .ok (.getfield 16, 3) := by decide +kernel
theorem dX5_stall_105 : decode cX5_stall 105 = .ok (.aload_n 0, 1) := by decide +kernel
theorem dX5_stall_106 : decode cX5_stall 106 = .ok (.getfield 39, 3) := by decide +kernel
theorem dX5_stall_109 : decode cX5_stall 109 = .ok (.aload_n 0, 1) := by decide +kernel
theorem dX5_stall_110 : decode cX5_stall 110 = .ok (.getfield 19, 3) := by decide +kernel
theorem dX5_stall_113 : decode cX5_stall 113 = .ok (.bipush 24, 2) := by decide +kernel
theorem dX5_stall_115 : decode cX5_stall 115 = .ok (.iload_n 1, 1) := by decide +kernel
theorem dX5_stall_116 : decode cX5_stall 116 = .ok (.imul, 1) := by decide +kernel
theorem dX5_stall_117 : decode cX5_stall 117 = .ok (.iload_n 2, 1) := by decide +kernel
theorem dX5_stall_118 : decode cX5_stall 118 = .ok (.iadd, 1) := by decide +kernel
theorem dX5_stall_119 : decode cX5_stall 119 = .ok (.iaload, 1) := by decide +kernel
theorem dX5_stall_120 : decode cX5_stall 120 = .ok (.iastore, 1) := by decide +kernel
theorem dX5_stall_121 : decode cX5_stall 121 = .ok (.aload_n 0, 1) := by decide +kernel
theorem dX5_stall_122 : decode cX5_stall 122 = .ok (.dup, 1) := by decide +kernel
theorem dX5_stall_123 : decode cX5_stall 123 = .ok (.getfield 39, 3) := by decide +kernel
theorem dX5_stall_126 : decode cX5_stall 126 = .ok (.iconst 1, 1) := by decide +kernel
theorem dX5_stall_127 : decode cX5_stall 127 = .ok (.iadd, 1) := by decide +kernel
theorem dX5_stall_128 : decode cX5_stall 128 = .ok (.putfield 39, 3) := by decide +kernel
theorem dX5_stall_131 : decode cX5_stall 131 = .ok (.aload_n 0, 1) := by decide +kernel
theorem dX5_stall_132 : decode cX5_stall 132 = .ok (.getfield 39, 3) := by decide +kernel
theorem dX5_stall_135 : decode cX5_stall 135 = .ok (.iconst 1, 1) := by decide +kernel
theorem dX5_stall_136 : decode cX5_stall 136 = .ok (.isub, 1) := by decide +kernel
theorem dX5_stall_137 : decode cX5_stall 137 = .ok (.ireturn, 1) := by decide +kernel
theorem dX5_rain_0 : decode cX5_rain 0 = .ok (.aload_n 0, 1) := by decide +kernel
theorem dX5_rain_1 : decode cX5_rain 1 = .ok (.iconst 0, 1) := by decide +kernel
theorem dX5_rain_2 : decode cX5_rain 2 = .ok (.putfield 28, 3) := by decide +kernel
theorem dX5_rain_5 : decode cX5_rain 5 = .ok (.iload_n 1, 1) := by decide +kernel
theorem dX5_rain_6 : decode cX5_rain 6 = .ok (.iconst 1, 1) := by decide +kernel
theorem dX5_rain_7 : decode cX5_rain 7 = .ok (.bipush 20, 2) := by decide +kernel
theorem dX5_rain_9 : decode cX5_rain 9 = .ok (.invokestatic 32, 3) := by decide +kernel
theorem dX5_rain_12 : decode cX5_rain 12 = .ok (.ifCond .ne 9, 3) := by decide +kernel
theorem dX5_rain_15 : decode cX5_rain 15 = .ok (.aload_n 0, 1) := by decide +kernel
theorem dX5_rain_16 : decode cX5_rain 16 = .ok (.iconst 1, 1) := by decide +kernel
theorem dX5_rain_17 : decode cX5_rain 17 = .ok (.invokevirtual 78, 3) := by decide +kernel
theorem dX5_rain_20 : decode cX5_rain 20 = .ok (.ireturn, 1) := by decide +kernel
theorem dX5_rain_21 : decode cX5_rain 21 = .ok (.aload_n 0, 1) := by decide +kernel
theorem dX5_rain_22 : decode cX5_rain 22 = .ok (.iload_n 1, 1) := by decide +kernel
theorem dX5_rain_23 : decode cX5_rain 23 = .ok (.invokevirtual 100, 3) := by decide +kernel
theorem dX5_rain_26 : decode cX5_rain 26 = .ok (.istore_n 2, 1) := by decide +kernel
theorem dX5_rain_27 : decode cX5_rain 27 = .ok (.iconst 0, 1) := by decide +kernel
theorem dX5_rain_28 : decode cX5_rain 28 = .ok (.istore_n 3, 1) := by decide +kernel
theorem dX5_rain_29 : decode cX5_rain 29 = .ok (.iload_n 3, 1) := by decide +kernel
theorem dX5_rain_30 : decode cX5_rain 30 = .ok (.sipush 576, 3) := by decide +kernel
theorem dX5_rain_33 : decode cX5_rain 33 = .ok (.if_icmp .ge 24, 3) := by decide +kernel
theorem dX5_rain_36 : decode cX5_rain 36 = .ok (.aload_n 0, 1) := by decide +kernel
theorem dX5_rain_37 : decode cX5_rain 37 = .ok (.getfield 19, 3) := by decide +kernel
theorem dX5_rain_40 : decode cX5_rain 40 = .ok (.iload_n 3, 1) := by decide +kernel
theorem dX5_rain_41 : decode cX5_rain 41 = .ok (.dup2, 1) := by decide +kernel
theorem dX5_rain_42 : decode cX5_rain 42 = .ok (.iaload, 1) := by decide +kernel
theorem dX5_rain_43 : decode cX5_rain 43 = .ok (.aload_n 0, 1) := by decide +kernel
theorem dX5_rain_44 : decode cX5_rain 44 = .ok (.getfield 22, 3) := by decide +kernel
theorem dX5_rain_47 : decode cX5_rain 47 = .ok (.iload_n 3, 1) := by decide +kernel
theorem dX5_rain_48 : decode cX5_rain 48 = .ok (.iaload, 1) := by decide +kernel
theorem dX5_rain_49 : decode cX5_rain 49 = .ok (.iadd, 1) := by decide +kernel
theorem dX5_rain_50 : decode cX5_rain 50 = .ok (.iastore, 1) := by decide +kernel
theorem dX5_rain_51 : decode cX5_rain 51 = .ok (.iinc 3 1, 3) := by decide +kernel
theorem dX5_rain_54 : decode cX5_rain 54 = .ok (.goto (-25), 3) := by decide +kernel
theorem dX5_rain_57 : decode cX5_rain 57 = .ok (.iconst 0, 1) := by decide +kernel
theorem dX5_rain_58 : decode cX5_rain 58 = .ok (.istore_n 3, 1) := by decide +kernel
theorem dX5_rain_59 : decode cX5_rain 59 = .ok (.iload_n 3, 1) := by decide +kernel
theorem dX5_rain_60 : decode cX5_rain 60 = .ok (.aload_n 0, 1) := by decide +kernel
theorem dX5_rain_61 : decode cX5_rain 61 = .ok (.getfield 36, 3) := by decide +kernel
theorem dX5_rain_64 : decode cX5_rain 64 = .ok (.if_icmp .ge 30, 3) := by decide +kernel
theorem dX5_rain_67 : decode cX5_rain 67 = .ok (.aload_n 0, 1) := by decide +kernel
theorem dX5_rain_68 : decode cX5_rain 68 = .ok (.getfield 9, 3) := by decide +kernel
theorem dX5_rain_71 : decode cX5_rain 71 = .ok (.bipush 8, 2) := by decide +kernel
theorem dX5_rain_73 : decode cX5_rain 73 = .ok (.iload_n 3, 1) := by decide +kernel
theorem dX5_rain_74 : decode cX5_rain 74 = .ok (.imul, 1) := by decide +kernel
theorem dX5_rain_75 : decode cX5_rain 75 = .ok (.bipush 7, 2) := by decide +kernel
theorem dX5_rain_77 : decode cX5_rain 77 = .ok (.iadd, 1) := by decide +kernel
theorem dX5_rain_78 : decode cX5_rain 78 = .ok (.dup2, 1) := by decide +kernel
theorem dX5_rain_79 : decode cX5_rain 79 = .ok (.iaload, 1) := by decide +kernel
theorem dX5_rain_80 : decode cX5_rain 80 = .ok (.aload_n 0, 1) := by decide +kernel
theorem dX5_rain_81 : decode cX5_rain 81 = .ok (.getfield 25, 3) := by decide +kernel
theorem dX5_rain_84 : decode cX5_rain 84 = .ok (.iload_n 3, 1) := by decide +kernel
theorem dX5_rain_85 : decode cX5_rain 85 = .ok (.iaload, 1) := by decide +kernel
theorem dX5_rain_86 : decode cX5_rain 86 = .ok (.iadd, 1) := by decide +kernel
theorem dX5_rain_87 : decode cX5_rain 87 = .ok (.iastore, 1) := by decide +kernel
theorem dX5_rain_88 : decode cX5_rain 88 = .ok (.iinc 3 1, 3) := by decide +kernel
theorem dX5_rain_91 : decode cX5_rain 91 = .ok (.goto (-32), 3) := by decide +kernel
theorem dX5_rain_94 : decode cX5_rain 94 = .ok (.aload_n 0, 1) := by decide +kernel
theorem dX5_rain_95 : decode cX5_rain 95 = .ok (.dup, 1) := by decide +kernel
theorem dX5_rain_96 : decode cX5_rain 96 = .ok (.getfield 103, 3) := by decide +kernel
theorem dX5_rain_99 : decode cX5_rain 99 = .ok (.iload_n 2, 1) := by decide +kernel
theorem dX5_rain_100 : decode cX5_rain 100 = .ok (.iadd, 1) := by decide +kernel
theorem dX5_rain_101 : decode cX5_rain 101 = .ok (.putfield 103, 3) := by decide +kernel
theorem dX5_rain_104 : decode cX5_rain 104 = .ok (.aload_n 0, 1) := by decide +kernel
theorem dX5_rain_105 : decode cX5_rain 105 = .ok (.dup, 1) := by decide +kernel
theorem dX5_rain_106 : decode cX5_rain 106 = .ok (.getfield 106, 3) := by decide +kernel
theorem dX5_rain_109 : decode cX5_rain 109 = .ok (.iconst 1, 1) := by decide +kernel
theorem dX5_rain_110 : decode cX5_rain 110 = .ok (.iadd, 1) := by decide +kernel
theorem dX5_rain_111 : decode cX5_rain 111 = .ok (.putfield 106, 3) := by decide +kernel
theorem dX5_rain_114 : decode cX5_rain 114 = .ok (.sipush 576, 3) := by decide +kernel
theorem dX5_rain_117 : decode cX5_rain 117 = .ok (.iload_n 1, 1) := by decide +kernel
theorem dX5_rain_118 : decode cX5_rain 118 = .ok (.imul, 1) := by decide +kernel
theorem dX5_rain_119 : decode cX5_rain 119 = .ok (.iload_n 2, 1) := by decide +kernel
theorem dX5_rain_120 : decode cX5_rain 120 = .ok (.isub, 1) := by decide +kernel
theorem dX5_rain_121 : decode cX5_rain 121 = .ok (.ireturn, 1) := by decide +kernel
theorem dX5_own_0 : decode cX5_own 0 = .ok (.iconst 0, 1) := by decide +kernel
theorem dX5_own_1 : decode cX5_own 1 = .ok (.istore_n 2, 1) := by decide +kernel
theorem dX5_own_2 : decode cX5_own 2 = .ok (.iconst 0, 1) := by decide +kernel
theorem dX5_own_3 : decode cX5_own 3 = .ok (.istore_n 3, 1) := by decide +kernel
theorem dX5_own_4 : decode cX5_own 4 = .ok (.iload_n 3, 1) := by decide +kernel
theorem dX5_own_5 : decode cX5_own 5 = .ok (.bipush 24, 2) := by decide +kernel
theorem dX5_own_7 : decode cX5_own 7 = .ok (.if_icmp .ge 30, 3) := by decide +kernel
theorem dX5_own_10 : decode cX5_own 10 = .ok (.iload_n 2, 1) := by decide +kernel
theorem dX5_own_11 : decode cX5_own 11 = .ok (.aload_n 0, 1) := by decide +kernel
theorem dX5_own_12 : decode cX5_own 12 = .ok (.iload_n 1, 1) := by decide +kernel
theorem dX5_own_13 : decode cX5_own 13 = .ok (.iload_n 3, 1) := by decide +kernel
theorem dX5_own_14 : decode cX5_own 14 = .ok (.invokevirtual 53, 3) := by decide +kernel
theorem dX5_own_17 : decode cX5_own 17 = .ok (.aload_n 0, 1) := by decide +kernel
theorem dX5_own_18 : decode cX5_own 18 = .ok (.iload_n 3, 1) := by decide +kernel
theorem dX5_own_19 : decode cX5_own 19 = .ok (.iload_n 1, 1) := by decide +kernel
theorem dX5_own_20 : decode cX5_own 20 = .ok (.invokevirtual 56, 3) := by decide +kernel
theorem dX5_own_23 : decode cX5_own 23 = .ok (.iconst (-1), 1) := by decide +kernel
theorem dX5_own_24 : decode cX5_own 24 = .ok (.ixor, 1) := by decide +kernel
theorem dX5_own_25 : decode cX5_own 25 = .ok (.iand, 1) := by decide +kernel
theorem dX5_own_26 : decode cX5_own 26 = .ok (.invokestatic 109, 3) := by decide +kernel
theorem dX5_own_29 : decode cX5_own 29 = .ok (.iadd, 1) := by decide +kernel
theorem dX5_own_30 : decode cX5_own 30 = .ok (.istore_n 2, 1) := by decide +kernel
theorem dX5_own_31 : decode cX5_own 31 = .ok (.iinc 3 1, 3) := by decide +kernel
theorem dX5_own_34 : decode cX5_own 34 = .ok (.goto (-30), 3) := by decide +kernel
theorem dX5_own_37 : decode cX5_own 37 = .ok (.iload_n 2, 1) := by decide +kernel
theorem dX5_own_38 : decode cX5_own 38 = .ok (.ireturn, 1) := by decide +kernel
theorem dX5_awningTold_0 : decode cX5_awningTold 0 = .ok (.iload_n 2, 1) := by decide +kernel
theorem dX5_awningTold_1 : decode cX5_awningTold 1 = .ok (.bipush 7, 2) := by decide +kernel
theorem dX5_awningTold_3 : decode cX5_awningTold 3 = .ok (.if_icmp .ge 12, 3) := by decide +kernel
theorem dX5_awningTold_6 : decode cX5_awningTold 6 = .ok (.aload_n 0, 1) := by decide +kernel
theorem dX5_awningTold_7 : decode cX5_awningTold 7 = .ok (.iload_n 1, 1) := by decide +kernel
theorem dX5_awningTold_8 : decode cX5_awningTold 8 = .ok (.iload_n 2, 1) := by decide +kernel
theorem dX5_awningTold_9 : decode cX5_awningTold 9 = .ok (.invokevirtual 42, 3) := by decide +kernel
theorem dX5_awningTold_12 : decode cX5_awningTold 12 = .ok (.goto 24, 3) := by decide +kernel
theorem dX5_awningTold_15 : decode cX5_awningTold 15 = .ok (.iload_n 2, 1) := by decide +kernel
theorem dX5_awningTold_16 : decode cX5_awningTold 16 = .ok (.bipush 7, 2) := by decide +kernel
theorem dX5_awningTold_18 : decode cX5_awningTold 18 = .ok (.if_icmp .ne 11, 3) := by decide +kernel
theorem dX5_awningTold_21 : decode cX5_awningTold 21 = .ok (.aload_n 0, 1) := by decide +kernel
theorem dX5_awningTold_22 : decode cX5_awningTold 22 = .ok (.iload_n 1, 1) := by decide +kernel
theorem dX5_awningTold_23 : decode cX5_awningTold 23 = .ok (.invokevirtual 112, 3) := by decide +kernel
theorem dX5_awningTold_26 : decode cX5_awningTold 26 = .ok (.goto 10, 3) := by decide +kernel
theorem dX5_awningTold_29 : decode cX5_awningTold 29 = .ok (.aload_n 0, 1) := by decide +kernel
theorem dX5_awningTold_30 : decode cX5_awningTold 30 = .ok (.iload_n 1, 1) := by decide +kernel
theorem dX5_awningTold_31 : decode cX5_awningTold 31 = .ok (.bipush 7, 2) := by decide +kernel
theorem dX5_awningTold_33 : decode cX5_awningTold 33 = .ok (.invokevirtual 42, 3) := by decide +kernel
theorem dX5_awningTold_36 : decode cX5_awningTold 36 = .ok (.ireturn, 1) := by decide +kernel
theorem dX5_about_0 : decode cX5_about 0 = .ok (.aload_n 0, 1) := by decide +kernel
theorem dX5_about_1 : decode cX5_about 1 = .ok (.iconst 0, 1) := by decide +kernel
theorem dX5_about_2 : decode cX5_about 2 = .ok (.putfield 28, 3) := by decide +kernel
theorem dX5_about_5 : decode cX5_about 5 = .ok (.aload_n 0, 1) := by decide +kernel
theorem dX5_about_6 : decode cX5_about 6 = .ok (.iload_n 1, 1) := by decide +kernel
theorem dX5_about_7 : decode cX5_about 7 = .ok (.invokevirtual 91, 3) := by decide +kernel
theorem dX5_about_10 : decode cX5_about 10 = .ok (.ifCond .eq 22, 3) := by decide +kernel
theorem dX5_about_13 : decode cX5_about 13 = .ok (.iload_n 2, 1) := by decide +kernel
theorem dX5_about_14 : decode cX5_about 14 = .ok (.iconst 0, 1) := by decide +kernel
theorem dX5_about_15 : decode cX5_about 15 = .ok (.bipush 8, 2) := by decide +kernel
theorem dX5_about_17 : decode cX5_about 17 = .ok (.invokestatic 32, 3) := by decide +kernel
theorem dX5_about_20 : decode cX5_about 20 = .ok (.ifCond .eq 12, 3) := by decide +kernel
theorem dX5_about_23 : decode cX5_about 23 = .ok (.aload_n 0, 1) := by decide +kernel
theorem dX5_about_24 : decode cX5_about 24 = .ok (.iload_n 1, 1) := by decide +kernel
theorem dX5_about_25 : decode cX5_about 25 = .ok (.iload_n 2, 1) := by decide +kernel
theorem dX5_about_26 : decode cX5_about 26 = .ok (.invokevirtual 115, 3) := by decide +kernel
theorem dX5_about_29 : decode cX5_about 29 = .ok (.goto 8, 3) := by decide +kernel
theorem dX5_about_32 : decode cX5_about 32 = .ok (.aload_n 0, 1) := by decide +kernel
theorem dX5_about_33 : decode cX5_about 33 = .ok (.iconst 1, 1) := by decide +kernel
theorem dX5_about_34 : decode cX5_about 34 = .ok (.invokevirtual 78, 3) := by decide +kernel
theorem dX5_about_37 : decode cX5_about 37 = .ok (.ireturn, 1) := by decide +kernel
theorem dX5_cellTold_0 : decode cX5_cellTold 0 = .ok (.iload_n 3, 1) := by decide +kernel
theorem dX5_cellTold_1 : decode cX5_cellTold 1 = .ok (.ifCond .ne 12, 3) := by decide +kernel
theorem dX5_cellTold_4 : decode cX5_cellTold 4 = .ok (.aload_n 0, 1) := by decide +kernel
theorem dX5_cellTold_5 : decode cX5_cellTold 5 = .ok (.iload_n 1, 1) := by decide +kernel
theorem dX5_cellTold_6 : decode cX5_cellTold 6 = .ok (.iload_n 2, 1) := by decide +kernel
theorem dX5_cellTold_7 : decode cX5_cellTold 7 = .ok (.invokevirtual 118, 3) := by decide +kernel
theorem dX5_cellTold_10 : decode cX5_cellTold 10 = .ok (.goto 30, 3) := by decide +kernel
theorem dX5_cellTold_13 : decode cX5_cellTold 13 = .ok (.iload_n 3, 1) := by decide +kernel
theorem dX5_cellTold_14 : decode cX5_cellTold 14 = .ok (.iconst 1, 1) := by decide +kernel
theorem dX5_cellTold_15 : decode cX5_cellTold 15 = .ok (.if_icmp .ne 14, 3) := by decide +kernel
theorem dX5_cellTold_18 : decode cX5_cellTold 18 = .ok (.aload_n 0, 1) := by decide +kernel
theorem dX5_cellTold_19 : decode cX5_cellTold 19 = .ok (.iload_n 1, 1) := by decide +kernel
theorem dX5_cellTold_20 : decode cX5_cellTold 20 = .ok (.iload_n 2, 1) := by decide +kernel
theorem dX5_cellTold_21 : decode cX5_cellTold 21 = .ok (.bipush 10, 2) := by decide +kernel
theorem dX5_cellTold_23 : decode cX5_cellTold 23 = .ok (.invokevirtual 67, 3) := by decide +kernel
theorem dX5_cellTold_26 : decode cX5_cellTold 26 = .ok (.goto 14, 3) := by decide +kernel
theorem dX5_cellTold_29 : decode cX5_cellTold 29 = .ok (.aload_n 0, 1) := by decide +kernel
theorem dX5_cellTold_30 : decode cX5_cellTold 30 = .ok (.getfield 19, 3) := by decide +kernel
theorem dX5_cellTold_33 : decode cX5_cellTold 33 = .ok (.bipush 24, 2) := by decide +kernel
theorem dX5_cellTold_35 : decode cX5_cellTold 35 = .ok (.iload_n 1, 1) := by decide +kernel
theorem dX5_cellTold_36 : decode cX5_cellTold 36 = .ok (.imul, 1) := by decide +kernel
theorem dX5_cellTold_37 : decode cX5_cellTold 37 = .ok (.iload_n 2, 1) := by decide +kernel
theorem dX5_cellTold_38 : decode cX5_cellTold 38 = .ok (.iadd, 1) := by decide +kernel
theorem dX5_cellTold_39 : decode cX5_cellTold 39 = .ok (.iaload, 1) := by decide +kernel
theorem dX5_cellTold_40 : decode cX5_cellTold 40 = .ok (.ireturn, 1) := by decide +kernel
theorem dX5_cell_0 : decode cX5_cell 0 = .ok (.aload_n 0, 1) := by decide +kernel
theorem dX5_cell_1 : decode cX5_cell 1 = .ok (.iconst 0, 1) := by decide +kernel
theorem dX5_cell_2 : decode cX5_cell 2 = .ok (.putfield 28, 3) := by decide +kernel
theorem dX5_cell_5 : decode cX5_cell 5 = .ok (.iload_n 1, 1) := by decide +kernel
theorem dX5_cell_6 : decode cX5_cell 6 = .ok (.iload_n 2, 1) := by decide +kernel
theorem dX5_cell_7 : decode cX5_cell 7 = .ok (.invokestatic 97, 3) := by decide +kernel
theorem dX5_cell_10 : decode cX5_cell 10 = .ok (.ifCond .eq 22, 3) := by decide +kernel
theorem dX5_cell_13 : decode cX5_cell 13 = .ok (.iload_n 3, 1) := by decide +kernel
theorem dX5_cell_14 : decode cX5_cell 14 = .ok (.iconst 0, 1) := by decide +kernel
theorem dX5_cell_15 : decode cX5_cell 15 = .ok (.iconst 2, 1) := by decide +kernel
theorem dX5_cell_16 : decode cX5_cell 16 = .ok (.invokestatic 32, 3) := by decide +kernel
theorem dX5_cell_19 : decode cX5_cell 19 = .ok (.ifCond .eq 13, 3) := by decide +kernel
theorem dX5_cell_22 : decode cX5_cell 22 = .ok (.aload_n 0, 1) := by decide +kernel
theorem dX5_cell_23 : decode cX5_cell 23 = .ok (.iload_n 1, 1) := by decide +kernel
theorem dX5_cell_24 : decode cX5_cell 24 = .ok (.iload_n 2, 1) := by decide +kernel
theorem dX5_cell_25 : decode cX5_cell 25 = .ok (.iload_n 3, 1) := by decide +kernel
theorem dX5_cell_26 : decode cX5_cell 26 = .ok (.invokevirtual 121, 3) := by decide +kernel
theorem dX5_cell_29 : decode cX5_cell 29 = .ok (.goto 8, 3) := by decide +kernel
theorem dX5_cell_32 : decode cX5_cell 32 = .ok (.aload_n 0, 1) := by decide +kernel
theorem dX5_cell_33 : decode cX5_cell 33 = .ok (.iconst 1, 1) := by decide +kernel
theorem dX5_cell_34 : decode cX5_cell 34 = .ok (.invokevirtual 78, 3) := by decide +kernel
theorem dX5_cell_37 : decode cX5_cell 37 = .ok (.ireturn, 1) := by decide +kernel
theorem dX5_longest_0 : decode cX5_longest 0 = .ok (.iconst 0, 1) := by decide +kernel
theorem dX5_longest_1 : decode cX5_longest 1 = .ok (.istore_n 1, 1) := by decide +kernel
theorem dX5_longest_2 : decode cX5_longest 2 = .ok (.iload_n 0, 1) := by decide +kernel
theorem dX5_longest_3 : decode cX5_longest 3 = .ok (.istore_n 2, 1) := by decide +kernel
theorem dX5_longest_4 : decode cX5_longest 4 = .ok (.iload_n 2, 1) := by decide +kernel
theorem dX5_longest_5 : decode cX5_longest 5 = .ok (.ifCond .eq 15, 3) := by decide +kernel
theorem dX5_longest_8 : decode cX5_longest 8 = .ok (.iinc 1 1, 3) := by decide +kernel
theorem dX5_longest_11 : decode cX5_longest 11 = .ok (.iload_n 2, 1) := by decide +kernel
theorem dX5_longest_12 : decode cX5_longest 12 = .ok (.iload_n 2, 1) := by decide +kernel
theorem dX5_longest_13 : decode cX5_longest 13 = .ok (.iconst 1, 1) := by decide +kernel
theorem dX5_longest_14 : decode cX5_longest 14 = .ok (.ishl, 1) := by decide +kernel
theorem dX5_longest_15 : decode cX5_longest 15 = .ok (.iand, 1) := by decide +kernel
theorem dX5_longest_16 : decode cX5_longest 16 = .ok (.istore_n 2, 1) := by decide +kernel
theorem dX5_longest_17 : decode cX5_longest 17 = .ok (.goto (-13), 3) := by decide +kernel
theorem dX5_longest_20 : decode cX5_longest 20 = .ok (.iload_n 1, 1) := by decide +kernel
theorem dX5_longest_21 : decode cX5_longest 21 = .ok (.ireturn, 1) := by decide +kernel
theorem dX5_deepest_0 : decode cX5_deepest 0 = .ok (.iconst 0, 1) := by decide +kernel
theorem dX5_deepest_1 : decode cX5_deepest 1 = .ok (.istore_n 2, 1) := by decide +kernel
theorem dX5_deepest_2 : decode cX5_deepest 2 = .ok (.iconst 0, 1) := by decide +kernel
theorem dX5_deepest_3 : decode cX5_deepest 3 = .ok (.istore_n 3, 1) := by decide +kernel
theorem dX5_deepest_4 : decode cX5_deepest 4 = .ok (.iload_n 3, 1) := by decide +kernel
theorem dX5_deepest_5 : decode cX5_deepest 5 = .ok (.bipush 24, 2) := by decide +kernel
theorem dX5_deepest_7 : decode cX5_deepest 7 = .ok (.if_icmp .ge 20, 3) := by decide +kernel
theorem dX5_deepest_10 : decode cX5_deepest 10 = .ok (.iload_n 2, 1) := by decide +kernel
theorem dX5_deepest_11 : decode cX5_deepest 11 = .ok (.aload_n 0, 1) := by decide +kernel
theorem dX5_deepest_12 : decode cX5_deepest 12 = .ok (.iload_n 1, 1) := by decide +kernel
theorem dX5_deepest_13 : decode cX5_deepest 13 = .ok (.iload_n 3, 1) := by decide +kernel
theorem dX5_deepest_14 : decode cX5_deepest 14 = .ok (.invokevirtual 118, 3) := by decide +kernel
theorem dX5_deepest_17 : decode cX5_deepest 17 = .ok (.invokestatic 124, 3) := by decide +kernel
theorem dX5_deepest_20 : decode cX5_deepest 20 = .ok (.istore_n 2, 1) := by decide +kernel
theorem dX5_deepest_21 : decode cX5_deepest 21 = .ok (.iinc 3 1, 3) := by decide +kernel
theorem dX5_deepest_24 : decode cX5_deepest 24 = .ok (.goto (-20), 3) := by decide +kernel
theorem dX5_deepest_27 : decode cX5_deepest 27 = .ok (.iload_n 2, 1) := by decide +kernel
theorem dX5_deepest_28 : decode cX5_deepest 28 = .ok (.ireturn, 1) := by decide +kernel
theorem dX5_cordTold_0 : decode cX5_cordTold 0 = .ok (.aload_n 0, 1) := by decide +kernel
theorem dX5_cordTold_1 : decode cX5_cordTold 1 = .ok (.iload_n 1, 1) := by decide +kernel
theorem dX5_cordTold_2 : decode cX5_cordTold 2 = .ok (.invokevirtual 129, 3) := by decide +kernel
theorem dX5_cordTold_5 : decode cX5_cordTold 5 = .ok (.istore_n 3, 1) := by decide +kernel
theorem dX5_cordTold_6 : decode cX5_cordTold 6 = .ok (.iload_n 2, 1) := by decide +kernel
theorem dX5_cordTold_7 : decode cX5_cordTold 7 = .ok (.tableswitch 46 0 2 #[25, 30, 41], 25) := by decide +kernel
theorem dX5_cordTold_32 : decode cX5_cordTold 32 = .ok (.iload_n 3, 1) := by decide +kernel
theorem dX5_cordTold_33 : decode cX5_cordTold 33 = .ok (.invokestatic 109, 3) := by decide +kernel
theorem dX5_cordTold_36 : decode cX5_cordTold 36 = .ok (.ireturn, 1) := by decide +kernel
theorem dX5_cordTold_37 : decode cX5_cordTold 37 = .ok (.iload_n 3, 1) := by decide +kernel
theorem dX5_cordTold_38 : decode cX5_cordTold 38 = .ok (.iload_n 3, 1) := by decide +kernel
theorem dX5_cordTold_39 : decode cX5_cordTold 39 = .ok (.iconst 1, 1) := by decide +kernel
theorem dX5_cordTold_40 : decode cX5_cordTold 40 = .ok (.ishl, 1) := by decide +kernel
theorem dX5_cordTold_41 : decode cX5_cordTold 41 = .ok (.iconst (-1), 1) := by decide +kernel
theorem dX5_cordTold_42 : decode cX5_cordTold 42 = .ok (.ixor, 1) := by decide +kernel
theorem dX5_cordTold_43 : decode cX5_cordTold 43 = .ok (.iand, 1) := by decide +kernel
theorem dX5_cordTold_44 : decode cX5_cordTold 44 = .ok (.invokestatic 109, 3) := by decide +kernel
theorem dX5_cordTold_47 : decode cX5_cordTold 47 = .ok (.ireturn, 1) := by decide +kernel
theorem dX5_cordTold_48 : decode cX5_cordTold 48 = .ok (.iload_n 3, 1) := by decide +kernel
theorem dX5_cordTold_49 : decode cX5_cordTold 49 = .ok (.invokestatic 131, 3) := by decide +kernel
theorem dX5_cordTold_52 : decode cX5_cordTold 52 = .ok (.ireturn, 1) := by decide +kernel
theorem dX5_cordTold_53 : decode cX5_cordTold 53 = .ok (.aload_n 0, 1) := by decide +kernel
theorem dX5_cordTold_54 : decode cX5_cordTold 54 = .ok (.iload_n 1, 1) := by decide +kernel
theorem dX5_cordTold_55 : decode cX5_cordTold 55 = .ok (.invokevirtual 134, 3) := by decide +kernel
theorem dX5_cordTold_58 : decode cX5_cordTold 58 = .ok (.ireturn, 1) := by decide +kernel
theorem dX5_cord_0 : decode cX5_cord 0 = .ok (.aload_n 0, 1) := by decide +kernel
theorem dX5_cord_1 : decode cX5_cord 1 = .ok (.iconst 0, 1) := by decide +kernel
theorem dX5_cord_2 : decode cX5_cord 2 = .ok (.putfield 28, 3) := by decide +kernel
theorem dX5_cord_5 : decode cX5_cord 5 = .ok (.iload_n 1, 1) := by decide +kernel
theorem dX5_cord_6 : decode cX5_cord 6 = .ok (.iconst 0, 1) := by decide +kernel
end
section
theorem dX5_cord_7 : decode cX5_cord 7 = .ok (.bipush 23, 2) := by decide +kernel
theorem dX5_cord_9 : decode cX5_cord 9 = .ok (.invokestatic 32, 3) := by decide +kernel
theorem dX5_cord_12 : decode cX5_cord 12 = .ok (.ifCond .eq 21, 3) := by decide +kernel
theorem dX5_cord_15 : decode cX5_cord 15 = .ok (.iload_n 2, 1) := by decide +kernel
theorem dX5_cord_16 : decode cX5_cord 16 = .ok (.iconst 0, 1) := by decide +kernel
theorem dX5_cord_17 : decode cX5_cord 17 = .ok (.iconst 3, 1) := by decide +kernel
theorem dX5_cord_18 : decode cX5_cord 18 = .ok (.invokestatic 32, 3) := by decide +kernel
theorem dX5_cord_21 : decode cX5_cord 21 = .ok (.ifCond .eq 12, 3) := by decide +kernel
theorem dX5_cord_24 : decode cX5_cord 24 = .ok (.aload_n 0, 1) := by decide +kernel
theorem dX5_cord_25 : decode cX5_cord 25 = .ok (.iload_n 1, 1) := by decide +kernel
theorem dX5_cord_26 : decode cX5_cord 26 = .ok (.iload_n 2, 1) := by decide +kernel
theorem dX5_cord_27 : decode cX5_cord 27 = .ok (.invokevirtual 137, 3) := by decide +kernel
theorem dX5_cord_30 : decode cX5_cord 30 = .ok (.goto 8, 3) := by decide +kernel
theorem dX5_cord_33 : decode cX5_cord 33 = .ok (.aload_n 0, 1) := by decide +kernel
theorem dX5_cord_34 : decode cX5_cord 34 = .ok (.iconst 1, 1) := by decide +kernel
theorem dX5_cord_35 : decode cX5_cord 35 = .ok (.invokevirtual 78, 3) := by decide +kernel
theorem dX5_cord_38 : decode cX5_cord 38 = .ok (.ireturn, 1) := by decide +kernel
theorem dX5_got_0 : decode cX5_got 0 = .ok (.aload_n 0, 1) := by decide +kernel
theorem dX5_got_1 : decode cX5_got 1 = .ok (.getfield 19, 3) := by decide +kernel
theorem dX5_got_4 : decode cX5_got 4 = .ok (.aload_n 0, 1) := by decide +kernel
theorem dX5_got_5 : decode cX5_got 5 = .ok (.getfield 13, 3) := by decide +kernel
theorem dX5_got_8 : decode cX5_got 8 = .ok (.iload_n 1, 1) := by decide +kernel
theorem dX5_got_9 : decode cX5_got 9 = .ok (.iaload, 1) := by decide +kernel
theorem dX5_got_10 : decode cX5_got 10 = .ok (.iaload, 1) := by decide +kernel
theorem dX5_got_11 : decode cX5_got 11 = .ok (.aload_n 0, 1) := by decide +kernel
theorem dX5_got_12 : decode cX5_got 12 = .ok (.getfield 16, 3) := by decide +kernel
theorem dX5_got_15 : decode cX5_got 15 = .ok (.iload_n 1, 1) := by decide +kernel
theorem dX5_got_16 : decode cX5_got 16 = .ok (.iaload, 1) := by decide +kernel
theorem dX5_got_17 : decode cX5_got 17 = .ok (.isub, 1) := by decide +kernel
theorem dX5_got_18 : decode cX5_got 18 = .ok (.ireturn, 1) := by decide +kernel
theorem dX5_stallTold_0 : decode cX5_stallTold 0 = .ok (.iload_n 2, 1) := by decide +kernel
theorem dX5_stallTold_1 : decode cX5_stallTold 1 = .ok (.tableswitch 53 0 2 #[27, 37, 47], 27) := by decide +kernel
theorem dX5_stallTold_28 : decode cX5_stallTold 28 = .ok (.aload_n 0, 1) := by decide +kernel
theorem dX5_stallTold_29 : decode cX5_stallTold 29 = .ok (.getfield 13, 3) := by decide +kernel
theorem dX5_stallTold_32 : decode cX5_stallTold 32 = .ok (.iload_n 1, 1) := by decide +kernel
theorem dX5_stallTold_33 : decode cX5_stallTold 33 = .ok (.iaload, 1) := by decide +kernel
theorem dX5_stallTold_34 : decode cX5_stallTold 34 = .ok (.bipush 24, 2) := by decide +kernel
theorem dX5_stallTold_36 : decode cX5_stallTold 36 = .ok (.idiv, 1) := by decide +kernel
theorem dX5_stallTold_37 : decode cX5_stallTold 37 = .ok (.ireturn, 1) := by decide +kernel
theorem dX5_stallTold_38 : decode cX5_stallTold 38 = .ok (.aload_n 0, 1) := by decide +kernel
theorem dX5_stallTold_39 : decode cX5_stallTold 39 = .ok (.getfield 13, 3) := by decide +kernel
theorem dX5_stallTold_42 : decode cX5_stallTold 42 = .ok (.iload_n 1, 1) := by decide +kernel
theorem dX5_stallTold_43 : decode cX5_stallTold 43 = .ok (.iaload, 1) := by decide +kernel
theorem dX5_stallTold_44 : decode cX5_stallTold 44 = .ok (.bipush 24, 2) := by decide +kernel
theorem dX5_stallTold_46 : decode cX5_stallTold 46 = .ok (.irem, 1) := by decide +kernel
theorem dX5_stallTold_47 : decode cX5_stallTold 47 = .ok (.ireturn, 1) := by decide +kernel
theorem dX5_stallTold_48 : decode cX5_stallTold 48 = .ok (.aload_n 0, 1) := by decide +kernel
theorem dX5_stallTold_49 : decode cX5_stallTold 49 = .ok (.iload_n 1, 1) := by decide +kernel
theorem dX5_stallTold_50 : decode cX5_stallTold 50 = .ok (.invokevirtual 140, 3) := by decide +kernel
theorem dX5_stallTold_53 : decode cX5_stallTold 53 = .ok (.ireturn, 1) := by decide +kernel
theorem dX5_stallTold_54 : decode cX5_stallTold 54 = .ok (.aload_n 0, 1) := by decide +kernel
theorem dX5_stallTold_55 : decode cX5_stallTold 55 = .ok (.aload_n 0, 1) := by decide +kernel
theorem dX5_stallTold_56 : decode cX5_stallTold 56 = .ok (.getfield 13, 3) := by decide +kernel
theorem dX5_stallTold_59 : decode cX5_stallTold 59 = .ok (.iload_n 1, 1) := by decide +kernel
theorem dX5_stallTold_60 : decode cX5_stallTold 60 = .ok (.iaload, 1) := by decide +kernel
theorem dX5_stallTold_61 : decode cX5_stallTold 61 = .ok (.bipush 24, 2) := by decide +kernel
theorem dX5_stallTold_63 : decode cX5_stallTold 63 = .ok (.idiv, 1) := by decide +kernel
theorem dX5_stallTold_64 : decode cX5_stallTold 64 = .ok (.aload_n 0, 1) := by decide +kernel
theorem dX5_stallTold_65 : decode cX5_stallTold 65 = .ok (.getfield 13, 3) := by decide +kernel
theorem dX5_stallTold_68 : decode cX5_stallTold 68 = .ok (.iload_n 1, 1) := by decide +kernel
theorem dX5_stallTold_69 : decode cX5_stallTold 69 = .ok (.iaload, 1) := by decide +kernel
theorem dX5_stallTold_70 : decode cX5_stallTold 70 = .ok (.bipush 24, 2) := by decide +kernel
theorem dX5_stallTold_72 : decode cX5_stallTold 72 = .ok (.irem, 1) := by decide +kernel
theorem dX5_stallTold_73 : decode cX5_stallTold 73 = .ok (.invokevirtual 118, 3) := by decide +kernel
theorem dX5_stallTold_76 : decode cX5_stallTold 76 = .ok (.ireturn, 1) := by decide +kernel
theorem dX5_told_0 : decode cX5_told 0 = .ok (.aload_n 0, 1) := by decide +kernel
theorem dX5_told_1 : decode cX5_told 1 = .ok (.iconst 0, 1) := by decide +kernel
theorem dX5_told_2 : decode cX5_told 2 = .ok (.putfield 28, 3) := by decide +kernel
theorem dX5_told_5 : decode cX5_told 5 = .ok (.aload_n 0, 1) := by decide +kernel
theorem dX5_told_6 : decode cX5_told 6 = .ok (.iload_n 1, 1) := by decide +kernel
theorem dX5_told_7 : decode cX5_told 7 = .ok (.invokevirtual 143, 3) := by decide +kernel
theorem dX5_told_10 : decode cX5_told 10 = .ok (.ifCond .eq 21, 3) := by decide +kernel
theorem dX5_told_13 : decode cX5_told 13 = .ok (.iload_n 2, 1) := by decide +kernel
theorem dX5_told_14 : decode cX5_told 14 = .ok (.iconst 0, 1) := by decide +kernel
theorem dX5_told_15 : decode cX5_told 15 = .ok (.iconst 3, 1) := by decide +kernel
theorem dX5_told_16 : decode cX5_told 16 = .ok (.invokestatic 32, 3) := by decide +kernel
theorem dX5_told_19 : decode cX5_told 19 = .ok (.ifCond .eq 12, 3) := by decide +kernel
theorem dX5_told_22 : decode cX5_told 22 = .ok (.aload_n 0, 1) := by decide +kernel
theorem dX5_told_23 : decode cX5_told 23 = .ok (.iload_n 1, 1) := by decide +kernel
theorem dX5_told_24 : decode cX5_told 24 = .ok (.iload_n 2, 1) := by decide +kernel
theorem dX5_told_25 : decode cX5_told 25 = .ok (.invokevirtual 146, 3) := by decide +kernel
theorem dX5_told_28 : decode cX5_told 28 = .ok (.goto 8, 3) := by decide +kernel
theorem dX5_told_31 : decode cX5_told 31 = .ok (.aload_n 0, 1) := by decide +kernel
theorem dX5_told_32 : decode cX5_told 32 = .ok (.iconst 1, 1) := by decide +kernel
theorem dX5_told_33 : decode cX5_told 33 = .ok (.invokevirtual 78, 3) := by decide +kernel
theorem dX5_told_36 : decode cX5_told 36 = .ok (.ireturn, 1) := by decide +kernel
theorem dX5_share_0 : decode cX5_share 0 = .ok (.aload_n 0, 1) := by decide +kernel
theorem dX5_share_1 : decode cX5_share 1 = .ok (.iconst 0, 1) := by decide +kernel
theorem dX5_share_2 : decode cX5_share 2 = .ok (.putfield 28, 3) := by decide +kernel
theorem dX5_share_5 : decode cX5_share 5 = .ok (.aload_n 0, 1) := by decide +kernel
theorem dX5_share_6 : decode cX5_share 6 = .ok (.iload_n 1, 1) := by decide +kernel
theorem dX5_share_7 : decode cX5_share 7 = .ok (.invokevirtual 91, 3) := by decide +kernel
theorem dX5_share_10 : decode cX5_share 10 = .ok (.ifCond .eq 11, 3) := by decide +kernel
theorem dX5_share_13 : decode cX5_share 13 = .ok (.aload_n 0, 1) := by decide +kernel
theorem dX5_share_14 : decode cX5_share 14 = .ok (.iload_n 2, 1) := by decide +kernel
theorem dX5_share_15 : decode cX5_share 15 = .ok (.invokevirtual 91, 3) := by decide +kernel
theorem dX5_share_18 : decode cX5_share 18 = .ok (.ifCond .ne 9, 3) := by decide +kernel
theorem dX5_share_21 : decode cX5_share 21 = .ok (.aload_n 0, 1) := by decide +kernel
theorem dX5_share_22 : decode cX5_share 22 = .ok (.iconst 1, 1) := by decide +kernel
theorem dX5_share_23 : decode cX5_share 23 = .ok (.invokevirtual 78, 3) := by decide +kernel
theorem dX5_share_26 : decode cX5_share 26 = .ok (.ireturn, 1) := by decide +kernel
theorem dX5_share_27 : decode cX5_share 27 = .ok (.iconst 0, 1) := by decide +kernel
theorem dX5_share_28 : decode cX5_share 28 = .ok (.istore_n 3, 1) := by decide +kernel
theorem dX5_share_29 : decode cX5_share 29 = .ok (.iconst 0, 1) := by decide +kernel
theorem dX5_share_30 : decode cX5_share 30 = .ok (.istore 4, 2) := by decide +kernel
theorem dX5_share_32 : decode cX5_share 32 = .ok (.iload 4, 2) := by decide +kernel
theorem dX5_share_34 : decode cX5_share 34 = .ok (.bipush 24, 2) := by decide +kernel
theorem dX5_share_36 : decode cX5_share 36 = .ok (.if_icmp .ge 30, 3) := by decide +kernel
theorem dX5_share_39 : decode cX5_share 39 = .ok (.iload_n 3, 1) := by decide +kernel
theorem dX5_share_40 : decode cX5_share 40 = .ok (.aload_n 0, 1) := by decide +kernel
theorem dX5_share_41 : decode cX5_share 41 = .ok (.iload_n 1, 1) := by decide +kernel
theorem dX5_share_42 : decode cX5_share 42 = .ok (.iload 4, 2) := by decide +kernel
theorem dX5_share_44 : decode cX5_share 44 = .ok (.invokevirtual 53, 3) := by decide +kernel
theorem dX5_share_47 : decode cX5_share 47 = .ok (.aload_n 0, 1) := by decide +kernel
theorem dX5_share_48 : decode cX5_share 48 = .ok (.iload_n 2, 1) := by decide +kernel
theorem dX5_share_49 : decode cX5_share 49 = .ok (.iload 4, 2) := by decide +kernel
theorem dX5_share_51 : decode cX5_share 51 = .ok (.invokevirtual 53, 3) := by decide +kernel
theorem dX5_share_54 : decode cX5_share 54 = .ok (.iand, 1) := by decide +kernel
theorem dX5_share_55 : decode cX5_share 55 = .ok (.invokestatic 109, 3) := by decide +kernel
theorem dX5_share_58 : decode cX5_share 58 = .ok (.iadd, 1) := by decide +kernel
theorem dX5_share_59 : decode cX5_share 59 = .ok (.istore_n 3, 1) := by decide +kernel
theorem dX5_share_60 : decode cX5_share 60 = .ok (.iinc 4 1, 3) := by decide +kernel
theorem dX5_share_63 : decode cX5_share 63 = .ok (.goto (-31), 3) := by decide +kernel
theorem dX5_share_66 : decode cX5_share 66 = .ok (.iload_n 3, 1) := by decide +kernel
theorem dX5_share_67 : decode cX5_share 67 = .ok (.ireturn, 1) := by decide +kernel
theorem dX5_outline_0 : decode cX5_outline 0 = .ok (.iconst 0, 1) := by decide +kernel
theorem dX5_outline_1 : decode cX5_outline 1 = .ok (.istore_n 1, 1) := by decide +kernel
theorem dX5_outline_2 : decode cX5_outline 2 = .ok (.iconst 0, 1) := by decide +kernel
theorem dX5_outline_3 : decode cX5_outline 3 = .ok (.istore_n 2, 1) := by decide +kernel
theorem dX5_outline_4 : decode cX5_outline 4 = .ok (.iload_n 2, 1) := by decide +kernel
theorem dX5_outline_5 : decode cX5_outline 5 = .ok (.bipush 24, 2) := by decide +kernel
theorem dX5_outline_7 : decode cX5_outline 7 = .ok (.if_icmp .gt 39, 3) := by decide +kernel
theorem dX5_outline_10 : decode cX5_outline 10 = .ok (.aload_n 0, 1) := by decide +kernel
theorem dX5_outline_11 : decode cX5_outline 11 = .ok (.iload_n 2, 1) := by decide +kernel
theorem dX5_outline_12 : decode cX5_outline 12 = .ok (.invokevirtual 129, 3) := by decide +kernel
theorem dX5_outline_15 : decode cX5_outline 15 = .ok (.istore_n 3, 1) := by decide +kernel
theorem dX5_outline_16 : decode cX5_outline 16 = .ok (.iload_n 1, 1) := by decide +kernel
theorem dX5_outline_17 : decode cX5_outline 17 = .ok (.iload_n 3, 1) := by decide +kernel
theorem dX5_outline_18 : decode cX5_outline 18 = .ok (.iload_n 3, 1) := by decide +kernel
theorem dX5_outline_19 : decode cX5_outline 19 = .ok (.iconst 1, 1) := by decide +kernel
theorem dX5_outline_20 : decode cX5_outline 20 = .ok (.ishl, 1) := by decide +kernel
theorem dX5_outline_21 : decode cX5_outline 21 = .ok (.ixor, 1) := by decide +kernel
theorem dX5_outline_22 : decode cX5_outline 22 = .ok (.invokestatic 109, 3) := by decide +kernel
theorem dX5_outline_25 : decode cX5_outline 25 = .ok (.iload_n 3, 1) := by decide +kernel
theorem dX5_outline_26 : decode cX5_outline 26 = .ok (.aload_n 0, 1) := by decide +kernel
theorem dX5_outline_27 : decode cX5_outline 27 = .ok (.iload_n 2, 1) := by decide +kernel
theorem dX5_outline_28 : decode cX5_outline 28 = .ok (.iconst 1, 1) := by decide +kernel
theorem dX5_outline_29 : decode cX5_outline 29 = .ok (.isub, 1) := by decide +kernel
theorem dX5_outline_30 : decode cX5_outline 30 = .ok (.invokevirtual 129, 3) := by decide +kernel
theorem dX5_outline_33 : decode cX5_outline 33 = .ok (.ixor, 1) := by decide +kernel
theorem dX5_outline_34 : decode cX5_outline 34 = .ok (.invokestatic 109, 3) := by decide +kernel
theorem dX5_outline_37 : decode cX5_outline 37 = .ok (.iadd, 1) := by decide +kernel
theorem dX5_outline_38 : decode cX5_outline 38 = .ok (.iadd, 1) := by decide +kernel
theorem dX5_outline_39 : decode cX5_outline 39 = .ok (.istore_n 1, 1) := by decide +kernel
theorem dX5_outline_40 : decode cX5_outline 40 = .ok (.iinc 2 1, 3) := by decide +kernel
theorem dX5_outline_43 : decode cX5_outline 43 = .ok (.goto (-39), 3) := by decide +kernel
theorem dX5_outline_46 : decode cX5_outline 46 = .ok (.iload_n 1, 1) := by decide +kernel
theorem dX5_outline_47 : decode cX5_outline 47 = .ok (.ireturn, 1) := by decide +kernel
theorem dX5_parts_0 : decode cX5_parts 0 = .ok (.bipush 26, 2) := by decide +kernel
theorem dX5_parts_2 : decode cX5_parts 2 = .ok (.newarray .int, 2) := by decide +kernel
theorem dX5_parts_4 : decode cX5_parts 4 = .ok (.astore_n 1, 1) := by decide +kernel
theorem dX5_parts_5 : decode cX5_parts 5 = .ok (.bipush 26, 2) := by decide +kernel
theorem dX5_parts_7 : decode cX5_parts 7 = .ok (.newarray .int, 2) := by decide +kernel
theorem dX5_parts_9 : decode cX5_parts 9 = .ok (.astore_n 2, 1) := by decide +kernel
theorem dX5_parts_10 : decode cX5_parts 10 = .ok (.iconst 0, 1) := by decide +kernel
theorem dX5_parts_11 : decode cX5_parts 11 = .ok (.istore_n 3, 1) := by decide +kernel
theorem dX5_parts_12 : decode cX5_parts 12 = .ok (.iload_n 3, 1) := by decide +kernel
theorem dX5_parts_13 : decode cX5_parts 13 = .ok (.bipush 24, 2) := by decide +kernel
theorem dX5_parts_15 : decode cX5_parts 15 = .ok (.if_icmp .ge 19, 3) := by decide +kernel
theorem dX5_parts_18 : decode cX5_parts 18 = .ok (.aload_n 1, 1) := by decide +kernel
theorem dX5_parts_19 : decode cX5_parts 19 = .ok (.iload_n 3, 1) := by decide +kernel
theorem dX5_parts_20 : decode cX5_parts 20 = .ok (.iconst 1, 1) := by decide +kernel
theorem dX5_parts_21 : decode cX5_parts 21 = .ok (.iadd, 1) := by decide +kernel
theorem dX5_parts_22 : decode cX5_parts 22 = .ok (.aload_n 0, 1) := by decide +kernel
theorem dX5_parts_23 : decode cX5_parts 23 = .ok (.iload_n 3, 1) := by decide +kernel
theorem dX5_parts_24 : decode cX5_parts 24 = .ok (.invokevirtual 129, 3) := by decide +kernel
theorem dX5_parts_27 : decode cX5_parts 27 = .ok (.iastore, 1) := by decide +kernel
theorem dX5_parts_28 : decode cX5_parts 28 = .ok (.iinc 3 1, 3) := by decide +kernel
theorem dX5_parts_31 : decode cX5_parts 31 = .ok (.goto (-19), 3) := by decide +kernel
theorem dX5_parts_34 : decode cX5_parts 34 = .ok (.iconst 0, 1) := by decide +kernel
theorem dX5_parts_35 : decode cX5_parts 35 = .ok (.istore_n 3, 1) := by decide +kernel
theorem dX5_parts_36 : decode cX5_parts 36 = .ok (.iconst 1, 1) := by decide +kernel
theorem dX5_parts_37 : decode cX5_parts 37 = .ok (.istore 4, 2) := by decide +kernel
theorem dX5_parts_39 : decode cX5_parts 39 = .ok (.iload 4, 2) := by decide +kernel
theorem dX5_parts_41 : decode cX5_parts 41 = .ok (.bipush 24, 2) := by decide +kernel
theorem dX5_parts_43 : decode cX5_parts 43 = .ok (.if_icmp .gt 104, 3) := by decide +kernel
theorem dX5_parts_46 : decode cX5_parts 46 = .ok (.aload_n 1, 1) := by decide +kernel
theorem dX5_parts_47 : decode cX5_parts 47 = .ok (.iload 4, 2) := by decide +kernel
theorem dX5_parts_49 : decode cX5_parts 49 = .ok (.iaload, 1) := by decide +kernel
theorem dX5_parts_50 : decode cX5_parts 50 = .ok (.ifCond .eq 91, 3) := by decide +kernel
theorem dX5_parts_53 : decode cX5_parts 53 = .ok (.iconst 0, 1) := by decide +kernel
theorem dX5_parts_54 : decode cX5_parts 54 = .ok (.istore 5, 2) := by decide +kernel
theorem dX5_parts_56 : decode cX5_parts 56 = .ok (.iload 5, 2) := by decide +kernel
theorem dX5_parts_58 : decode cX5_parts 58 = .ok (.aload_n 2, 1) := by decide +kernel
theorem dX5_parts_59 : decode cX5_parts 59 = .ok (.arraylength, 1) := by decide +kernel
theorem dX5_parts_60 : decode cX5_parts 60 = .ok (.if_icmp .ge 14, 3) := by decide +kernel
theorem dX5_parts_63 : decode cX5_parts 63 = .ok (.aload_n 2, 1) := by decide +kernel
theorem dX5_parts_64 : decode cX5_parts 64 = .ok (.iload 5, 2) := by decide +kernel
theorem dX5_parts_66 : decode cX5_parts 66 = .ok (.iconst 0, 1) := by decide +kernel
theorem dX5_parts_67 : decode cX5_parts 67 = .ok (.iastore, 1) := by decide +kernel
theorem dX5_parts_68 : decode cX5_parts 68 = .ok (.iinc 5 1, 3) := by decide +kernel
theorem dX5_parts_71 : decode cX5_parts 71 = .ok (.goto (-15), 3) := by decide +kernel
theorem dX5_parts_74 : decode cX5_parts 74 = .ok (.aload_n 2, 1) := by decide +kernel
theorem dX5_parts_75 : decode cX5_parts 75 = .ok (.iload 4, 2) := by decide +kernel
theorem dX5_parts_77 : decode cX5_parts 77 = .ok (.aload_n 1, 1) := by decide +kernel
theorem dX5_parts_78 : decode cX5_parts 78 = .ok (.iload 4, 2) := by decide +kernel
theorem dX5_parts_80 : decode cX5_parts 80 = .ok (.iaload, 1) := by decide +kernel
theorem dX5_parts_81 : decode cX5_parts 81 = .ok (.aload_n 1, 1) := by decide +kernel
theorem dX5_parts_82 : decode cX5_parts 82 = .ok (.iload 4, 2) := by decide +kernel
theorem dX5_parts_84 : decode cX5_parts 84 = .ok (.iaload, 1) := by decide +kernel
theorem dX5_parts_85 : decode cX5_parts 85 = .ok (.ineg, 1) := by decide +kernel
theorem dX5_parts_86 : decode cX5_parts 86 = .ok (.iand, 1) := by decide +kernel
theorem dX5_parts_87 : decode cX5_parts 87 = .ok (.iastore, 1) := by decide +kernel
theorem dX5_parts_88 : decode cX5_parts 88 = .ok (.iconst 1, 1) := by decide +kernel
theorem dX5_parts_89 : decode cX5_parts 89 = .ok (.istore 5, 2) := by decide +kernel
theorem dX5_parts_91 : decode cX5_parts 91 = .ok (.iload 5, 2) := by decide +kernel
theorem dX5_parts_93 : decode cX5_parts 93 = .ok (.ifCond .eq 13, 3) := by decide +kernel
theorem dX5_parts_96 : decode cX5_parts 96 = .ok (.aload_n 2, 1) := by decide +kernel
theorem dX5_parts_97 : decode cX5_parts 97 = .ok (.aload_n 1, 1) := by decide +kernel
theorem dX5_parts_98 : decode cX5_parts 98 = .ok (.invokestatic 149, 3) := by decide +kernel
theorem dX5_parts_101 : decode cX5_parts 101 = .ok (.istore 5, 2) := by decide +kernel
theorem dX5_parts_103 : decode cX5_parts 103 = .ok (.goto (-12), 3) := by decide +kernel
theorem dX5_parts_106 : decode cX5_parts 106 = .ok (.iconst 0, 1) := by decide +kernel
theorem dX5_parts_107 : decode cX5_parts 107 = .ok (.istore 6, 2) := by decide +kernel
theorem dX5_parts_109 : decode cX5_parts 109 = .ok (.iload 6, 2) := by decide +kernel
theorem dX5_parts_111 : decode cX5_parts 111 = .ok (.aload_n 2, 1) := by decide +kernel
theorem dX5_parts_112 : decode cX5_parts 112 = .ok (.arraylength, 1) := by decide +kernel
theorem dX5_parts_113 : decode cX5_parts 113 = .ok (.if_icmp .ge 22, 3) := by decide +kernel
theorem dX5_parts_116 : decode cX5_parts 116 = .ok (.aload_n 1, 1) := by decide +kernel
theorem dX5_parts_117 : decode cX5_parts 117 = .ok (.iload 6, 2) := by decide +kernel
theorem dX5_parts_119 : decode cX5_parts 119 = .ok (.dup2, 1) := by decide +kernel
theorem dX5_parts_120 : decode cX5_parts 120 = .ok (.iaload, 1) := by decide +kernel
theorem dX5_parts_121 : decode cX5_parts 121 = .ok (.aload_n 2, 1) := by decide +kernel
theorem dX5_parts_122 : decode cX5_parts 122 = .ok (.iload 6, 2) := by decide +kernel
theorem dX5_parts_124 : decode cX5_parts 124 = .ok (.iaload, 1) := by decide +kernel
theorem dX5_parts_125 : decode cX5_parts 125 = .ok (.iconst (-1), 1) := by decide +kernel
theorem dX5_parts_126 : decode cX5_parts 126 = .ok (.ixor, 1) := by decide +kernel
theorem dX5_parts_127 : decode cX5_parts 127 = .ok (.iand, 1) := by decide +kernel
theorem dX5_parts_128 : decode cX5_parts 128 = .ok (.iastore, 1) := by decide +kernel
theorem dX5_parts_129 : decode cX5_parts 129 = .ok (.iinc 6 1, 3) := by decide +kernel
theorem dX5_parts_132 : decode cX5_parts 132 = .ok (.goto (-23), 3) := by decide +kernel
theorem dX5_parts_135 : decode cX5_parts 135 = .ok (.iinc 3 1, 3) := by decide +kernel
theorem dX5_parts_138 : decode cX5_parts 138 = .ok (.goto (-92), 3) := by decide +kernel
theorem dX5_parts_141 : decode cX5_parts 141 = .ok (.iinc 4 1, 3) := by decide +kernel
theorem dX5_parts_144 : decode cX5_parts 144 = .ok (.goto (-105), 3) := by decide +kernel
theorem dX5_parts_147 : decode cX5_parts 147 = .ok (.iload_n 3, 1) := by decide +kernel
theorem dX5_parts_148 : decode cX5_parts 148 = .ok (.ireturn, 1) := by decide +kernel
theorem dX5_spreads_0 : decode cX5_spreads 0 = .ok (.iconst 0, 1) := by decide +kernel
theorem dX5_spreads_1 : decode cX5_spreads 1 = .ok (.istore_n 2, 1) := by decide +kernel
theorem dX5_spreads_2 : decode cX5_spreads 2 = .ok (.iconst 1, 1) := by decide +kernel
theorem dX5_spreads_3 : decode cX5_spreads 3 = .ok (.istore_n 3, 1) := by decide +kernel
theorem dX5_spreads_4 : decode cX5_spreads 4 = .ok (.iload_n 3, 1) := by decide +kernel
theorem dX5_spreads_5 : decode cX5_spreads 5 = .ok (.bipush 24, 2) := by decide +kernel
theorem dX5_spreads_7 : decode cX5_spreads 7 = .ok (.if_icmp .gt 63, 3) := by decide +kernel
theorem dX5_spreads_10 : decode cX5_spreads 10 = .ok (.aload_n 0, 1) := by decide +kernel
theorem dX5_spreads_11 : decode cX5_spreads 11 = .ok (.iload_n 3, 1) := by decide +kernel
theorem dX5_spreads_12 : decode cX5_spreads 12 = .ok (.iaload, 1) := by decide +kernel
theorem dX5_spreads_13 : decode cX5_spreads 13 = .ok (.aload_n 0, 1) := by decide +kernel
theorem dX5_spreads_14 : decode cX5_spreads 14 = .ok (.iload_n 3, 1) := by decide +kernel
theorem dX5_spreads_15 : decode cX5_spreads 15 = .ok (.iaload, 1) := by decide +kernel
theorem dX5_spreads_16 : decode cX5_spreads 16 = .ok (.iconst 1, 1) := by decide +kernel
theorem dX5_spreads_17 : decode cX5_spreads 17 = .ok (.ishl, 1) := by decide +kernel
theorem dX5_spreads_18 : decode cX5_spreads 18 = .ok (.ior, 1) := by decide +kernel
theorem dX5_spreads_19 : decode cX5_spreads 19 = .ok (.aload_n 0, 1) := by decide +kernel
theorem dX5_spreads_20 : decode cX5_spreads 20 = .ok (.iload_n 3, 1) := by decide +kernel
theorem dX5_spreads_21 : decode cX5_spreads 21 = .ok (.iaload, 1) := by decide +kernel
theorem dX5_spreads_22 : decode cX5_spreads 22 = .ok (.iconst 1, 1) := by decide +kernel
theorem dX5_spreads_23 : decode cX5_spreads 23 = .ok (.ishr, 1) := by decide +kernel
theorem dX5_spreads_24 : decode cX5_spreads 24 = .ok (.ior, 1) := by decide +kernel
theorem dX5_spreads_25 : decode cX5_spreads 25 = .ok (.aload_n 0, 1) := by decide +kernel
theorem dX5_spreads_26 : decode cX5_spreads 26 = .ok (.iload_n 3, 1) := by decide +kernel
theorem dX5_spreads_27 : decode cX5_spreads 27 = .ok (.iconst 1, 1) := by decide +kernel
theorem dX5_spreads_28 : decode cX5_spreads 28 = .ok (.isub, 1) := by decide +kernel
theorem dX5_spreads_29 : decode cX5_spreads 29 = .ok (.iaload, 1) := by decide +kernel
theorem dX5_spreads_30 : decode cX5_spreads 30 = .ok (.ior, 1) := by decide +kernel
theorem dX5_spreads_31 : decode cX5_spreads 31 = .ok (.aload_n 0, 1) := by decide +kernel
theorem dX5_spreads_32 : decode cX5_spreads 32 = .ok (.iload_n 3, 1) := by decide +kernel
theorem dX5_spreads_33 : decode cX5_spreads 33 = .ok (.iconst 1, 1) := by decide +kernel
theorem dX5_spreads_34 : decode cX5_spreads 34 = .ok (.iadd, 1) := by decide +kernel
theorem dX5_spreads_35 : decode cX5_spreads 35 = .ok (.iaload, 1) := by decide +kernel
theorem dX5_spreads_36 : decode cX5_spreads 36 = .ok (.ior, 1) := by decide +kernel
theorem dX5_spreads_37 : decode cX5_spreads 37 = .ok (.aload_n 1, 1) := by decide +kernel
theorem dX5_spreads_38 : decode cX5_spreads 38 = .ok (.iload_n 3, 1) := by decide +kernel
theorem dX5_spreads_39 : decode cX5_spreads 39 = .ok (.iaload, 1) := by decide +kernel
theorem dX5_spreads_40 : decode cX5_spreads 40 = .ok (.iand, 1) := by decide +kernel
theorem dX5_spreads_41 : decode cX5_spreads 41 = .ok (.istore 4, 2) := by decide +kernel
theorem dX5_spreads_43 : decode cX5_spreads 43 = .ok (.iload_n 2, 1) := by decide +kernel
theorem dX5_spreads_44 : decode cX5_spreads 44 = .ok (.iload 4, 2) := by decide +kernel
theorem dX5_spreads_46 : decode cX5_spreads 46 = .ok (.aload_n 0, 1) := by decide +kernel
theorem dX5_spreads_47 : decode cX5_spreads 47 = .ok (.iload_n 3, 1) := by decide +kernel
theorem dX5_spreads_48 : decode cX5_spreads 48 = .ok (.iaload, 1) := by decide +kernel
theorem dX5_spreads_49 : decode cX5_spreads 49 = .ok (.if_icmp .eq 7, 3) := by decide +kernel
theorem dX5_spreads_52 : decode cX5_spreads 52 = .ok (.iconst 1, 1) := by decide +kernel
theorem dX5_spreads_53 : decode cX5_spreads 53 = .ok (.goto 4, 3) := by decide +kernel
theorem dX5_spreads_56 : decode cX5_spreads 56 = .ok (.iconst 0, 1) := by decide +kernel
theorem dX5_spreads_57 : decode cX5_spreads 57 = .ok (.ior, 1) := by decide +kernel
theorem dX5_spreads_58 : decode cX5_spreads 58 = .ok (.istore_n 2, 1) := by decide +kernel
theorem dX5_spreads_59 : decode cX5_spreads 59 = .ok (.aload_n 0, 1) := by decide +kernel
theorem dX5_spreads_60 : decode cX5_spreads 60 = .ok (.iload_n 3, 1) := by decide +kernel
theorem dX5_spreads_61 : decode cX5_spreads 61 = .ok (.iload 4, 2) := by decide +kernel
theorem dX5_spreads_63 : decode cX5_spreads 63 = .ok (.iastore, 1) := by decide +kernel
theorem dX5_spreads_64 : decode cX5_spreads 64 = .ok (.iinc 3 1, 3) := by decide +kernel
theorem dX5_spreads_67 : decode cX5_spreads 67 = .ok (.goto (-63), 3) := by decide +kernel
theorem dX5_spreads_70 : decode cX5_spreads 70 = .ok (.iload_n 2, 1) := by decide +kernel
theorem dX5_spreads_71 : decode cX5_spreads 71 = .ok (.ireturn, 1) := by decide +kernel
theorem dX5_sumOf_0 : decode cX5_sumOf 0 = .ok (.iconst 0, 1) := by decide +kernel
theorem dX5_sumOf_1 : decode cX5_sumOf 1 = .ok (.istore_n 2, 1) := by decide +kernel
theorem dX5_sumOf_2 : decode cX5_sumOf 2 = .ok (.iconst 0, 1) := by decide +kernel
theorem dX5_sumOf_3 : decode cX5_sumOf 3 = .ok (.istore_n 3, 1) := by decide +kernel
theorem dX5_sumOf_4 : decode cX5_sumOf 4 = .ok (.iload_n 3, 1) := by decide +kernel
theorem dX5_sumOf_5 : decode cX5_sumOf 5 = .ok (.bipush 24, 2) := by decide +kernel
theorem dX5_sumOf_7 : decode cX5_sumOf 7 = .ok (.if_icmp .ge 95, 3) := by decide +kernel
theorem dX5_sumOf_10 : decode cX5_sumOf 10 = .ok (.iload_n 2, 1) := by decide +kernel
theorem dX5_sumOf_11 : decode cX5_sumOf 11 = .ok (.iload_n 1, 1) := by decide +kernel
theorem dX5_sumOf_12 : decode cX5_sumOf 12 = .ok (.iconst 3, 1) := by decide +kernel
theorem dX5_sumOf_13 : decode cX5_sumOf 13 = .ok (.if_icmp .ne 14, 3) := by decide +kernel
theorem dX5_sumOf_16 : decode cX5_sumOf 16 = .ok (.aload_n 0, 1) := by decide +kernel
theorem dX5_sumOf_17 : decode cX5_sumOf 17 = .ok (.iload_n 3, 1) := by decide +kernel
theorem dX5_sumOf_18 : decode cX5_sumOf 18 = .ok (.invokevirtual 129, 3) := by decide +kernel
theorem dX5_sumOf_21 : decode cX5_sumOf 21 = .ok (.invokestatic 109, 3) := by decide +kernel
theorem dX5_sumOf_24 : decode cX5_sumOf 24 = .ok (.goto 4, 3) := by decide +kernel
theorem dX5_sumOf_27 : decode cX5_sumOf 27 = .ok (.iconst 0, 1) := by decide +kernel
theorem dX5_sumOf_28 : decode cX5_sumOf 28 = .ok (.iadd, 1) := by decide +kernel
theorem dX5_sumOf_29 : decode cX5_sumOf 29 = .ok (.istore_n 2, 1) := by decide +kernel
theorem dX5_sumOf_30 : decode cX5_sumOf 30 = .ok (.iconst 0, 1) := by decide +kernel
theorem dX5_sumOf_31 : decode cX5_sumOf 31 = .ok (.istore 4, 2) := by decide +kernel
theorem dX5_sumOf_33 : decode cX5_sumOf 33 = .ok (.iload 4, 2) := by decide +kernel
theorem dX5_sumOf_35 : decode cX5_sumOf 35 = .ok (.bipush 24, 2) := by decide +kernel
theorem dX5_sumOf_37 : decode cX5_sumOf 37 = .ok (.if_icmp .ge 59, 3) := by decide +kernel
theorem dX5_sumOf_40 : decode cX5_sumOf 40 = .ok (.iload_n 2, 1) := by decide +kernel
theorem dX5_sumOf_41 : decode cX5_sumOf 41 = .ok (.iload_n 1, 1) := by decide +kernel
theorem dX5_sumOf_42 : decode cX5_sumOf 42 = .ok (.bipush 6, 2) := by decide +kernel
theorem dX5_sumOf_44 : decode cX5_sumOf 44 = .ok (.if_icmp .ne 22, 3) := by decide +kernel
theorem dX5_sumOf_47 : decode cX5_sumOf 47 = .ok (.aload_n 0, 1) := by decide +kernel
theorem dX5_sumOf_48 : decode cX5_sumOf 48 = .ok (.iload_n 3, 1) := by decide +kernel
theorem dX5_sumOf_49 : decode cX5_sumOf 49 = .ok (.iload 4, 2) := by decide +kernel
theorem dX5_sumOf_51 : decode cX5_sumOf 51 = .ok (.invokevirtual 118, 3) := by decide +kernel
theorem dX5_sumOf_54 : decode cX5_sumOf 54 = .ok (.iconst 1, 1) := by decide +kernel
theorem dX5_sumOf_55 : decode cX5_sumOf 55 = .ok (.if_icmp .le 7, 3) := by decide +kernel
theorem dX5_sumOf_58 : decode cX5_sumOf 58 = .ok (.iconst 1, 1) := by decide +kernel
theorem dX5_sumOf_59 : decode cX5_sumOf 59 = .ok (.goto 29, 3) := by decide +kernel
theorem dX5_sumOf_62 : decode cX5_sumOf 62 = .ok (.iconst 0, 1) := by decide +kernel
theorem dX5_sumOf_63 : decode cX5_sumOf 63 = .ok (.goto 25, 3) := by decide +kernel
theorem dX5_sumOf_66 : decode cX5_sumOf 66 = .ok (.iload_n 1, 1) := by decide +kernel
theorem dX5_sumOf_67 : decode cX5_sumOf 67 = .ok (.bipush 8, 2) := by decide +kernel
theorem dX5_sumOf_69 : decode cX5_sumOf 69 = .ok (.if_icmp .ne 18, 3) := by decide +kernel
theorem dX5_sumOf_72 : decode cX5_sumOf 72 = .ok (.aload_n 0, 1) := by decide +kernel
theorem dX5_sumOf_73 : decode cX5_sumOf 73 = .ok (.getfield 19, 3) := by decide +kernel
theorem dX5_sumOf_76 : decode cX5_sumOf 76 = .ok (.bipush 24, 2) := by decide +kernel
theorem dX5_sumOf_78 : decode cX5_sumOf 78 = .ok (.iload_n 3, 1) := by decide +kernel
theorem dX5_sumOf_79 : decode cX5_sumOf 79 = .ok (.imul, 1) := by decide +kernel
theorem dX5_sumOf_80 : decode cX5_sumOf 80 = .ok (.iload 4, 2) := by decide +kernel
theorem dX5_sumOf_82 : decode cX5_sumOf 82 = .ok (.iadd, 1) := by decide +kernel
theorem dX5_sumOf_83 : decode cX5_sumOf 83 = .ok (.iaload, 1) := by decide +kernel
theorem dX5_sumOf_84 : decode cX5_sumOf 84 = .ok (.goto 4, 3) := by decide +kernel
theorem dX5_sumOf_87 : decode cX5_sumOf 87 = .ok (.iconst 0, 1) := by decide +kernel
theorem dX5_sumOf_88 : decode cX5_sumOf 88 = .ok (.iadd, 1) := by decide +kernel
theorem dX5_sumOf_89 : decode cX5_sumOf 89 = .ok (.istore_n 2, 1) := by decide +kernel
theorem dX5_sumOf_90 : decode cX5_sumOf 90 = .ok (.iinc 4 1, 3) := by decide +kernel
theorem dX5_sumOf_93 : decode cX5_sumOf 93 = .ok (.goto (-60), 3) := by decide +kernel
theorem dX5_sumOf_96 : decode cX5_sumOf 96 = .ok (.iinc 3 1, 3) := by decide +kernel
theorem dX5_sumOf_99 : decode cX5_sumOf 99 = .ok (.goto (-95), 3) := by decide +kernel
theorem dX5_sumOf_102 : decode cX5_sumOf 102 = .ok (.iload_n 2, 1) := by decide +kernel
theorem dX5_sumOf_103 : decode cX5_sumOf 103 = .ok (.ireturn, 1) := by decide +kernel
theorem dX5_out_0 : decode cX5_out 0 = .ok (.iconst 0, 1) := by decide +kernel
theorem dX5_out_1 : decode cX5_out 1 = .ok (.istore_n 1, 1) := by decide +kernel
theorem dX5_out_2 : decode cX5_out 2 = .ok (.iconst 0, 1) := by decide +kernel
theorem dX5_out_3 : decode cX5_out 3 = .ok (.istore_n 2, 1) := by decide +kernel
theorem dX5_out_4 : decode cX5_out 4 = .ok (.iload_n 2, 1) := by decide +kernel
theorem dX5_out_5 : decode cX5_out 5 = .ok (.aload_n 0, 1) := by decide +kernel
theorem dX5_out_6 : decode cX5_out 6 = .ok (.getfield 36, 3) := by decide +kernel
theorem dX5_out_9 : decode cX5_out 9 = .ok (.if_icmp .ge 19, 3) := by decide +kernel
theorem dX5_out_12 : decode cX5_out 12 = .ok (.iload_n 1, 1) := by decide +kernel
theorem dX5_out_13 : decode cX5_out 13 = .ok (.aload_n 0, 1) := by decide +kernel
theorem dX5_out_14 : decode cX5_out 14 = .ok (.iload_n 2, 1) := by decide +kernel
theorem dX5_out_15 : decode cX5_out 15 = .ok (.bipush 6, 2) := by decide +kernel
theorem dX5_out_17 : decode cX5_out 17 = .ok (.invokevirtual 42, 3) := by decide +kernel
theorem dX5_out_20 : decode cX5_out 20 = .ok (.iadd, 1) := by decide +kernel
theorem dX5_out_21 : decode cX5_out 21 = .ok (.istore_n 1, 1) := by decide +kernel
theorem dX5_out_22 : decode cX5_out 22 = .ok (.iinc 2 1, 3) := by decide +kernel
theorem dX5_out_25 : decode cX5_out 25 = .ok (.goto (-21), 3) := by decide +kernel
theorem dX5_out_28 : decode cX5_out 28 = .ok (.iload_n 1, 1) := by decide +kernel
theorem dX5_out_29 : decode cX5_out 29 = .ok (.ireturn, 1) := by decide +kernel
theorem dX5_open_0 : decode cX5_open 0 = .ok (.iconst 0, 1) := by decide +kernel
theorem dX5_open_1 : decode cX5_open 1 = .ok (.istore_n 1, 1) := by decide +kernel
theorem dX5_open_2 : decode cX5_open 2 = .ok (.iconst 0, 1) := by decide +kernel
theorem dX5_open_3 : decode cX5_open 3 = .ok (.istore_n 2, 1) := by decide +kernel
theorem dX5_open_4 : decode cX5_open 4 = .ok (.iload_n 2, 1) := by decide +kernel
theorem dX5_open_5 : decode cX5_open 5 = .ok (.aload_n 0, 1) := by decide +kernel
theorem dX5_open_6 : decode cX5_open 6 = .ok (.getfield 39, 3) := by decide +kernel
theorem dX5_open_9 : decode cX5_open 9 = .ok (.if_icmp .ge 26, 3) := by decide +kernel
theorem dX5_open_12 : decode cX5_open 12 = .ok (.iload_n 1, 1) := by decide +kernel
theorem dX5_open_13 : decode cX5_open 13 = .ok (.aload_n 0, 1) := by decide +kernel
theorem dX5_open_14 : decode cX5_open 14 = .ok (.iload_n 2, 1) := by decide +kernel
theorem dX5_open_15 : decode cX5_open 15 = .ok (.iconst 3, 1) := by decide +kernel
theorem dX5_open_16 : decode cX5_open 16 = .ok (.invokevirtual 146, 3) := by decide +kernel
theorem dX5_open_19 : decode cX5_open 19 = .ok (.ifCond .ne 7, 3) := by decide +kernel
theorem dX5_open_22 : decode cX5_open 22 = .ok (.iconst 1, 1) := by decide +kernel
theorem dX5_open_23 : decode cX5_open 23 = .ok (.goto 4, 3) := by decide +kernel
theorem dX5_open_26 : decode cX5_open 26 = .ok (.iconst 0, 1) := by decide +kernel
theorem dX5_open_27 : decode cX5_open 27 = .ok (.iadd, 1) := by decide +kernel
theorem dX5_open_28 : decode cX5_open 28 = .ok (.istore_n 1, 1) := by decide +kernel
theorem dX5_open_29 : decode cX5_open 29 = .ok (.iinc 2 1, 3) := by decide +kernel
theorem dX5_open_32 : decode cX5_open 32 = .ok (.goto (-28), 3) := by decide +kernel
theorem dX5_open_35 : decode cX5_open 35 = .ok (.iload_n 1, 1) := by decide +kernel
theorem dX5_open_36 : decode cX5_open 36 = .ok (.ireturn, 1) := by decide +kernel
theorem dX5_counted_0 : decode cX5_counted 0 = .ok (.iload_n 1, 1) := by decide +kernel
theorem dX5_counted_1 : decode cX5_counted 1 = .ok (.tableswitch 99 0 10 #[59, 64, 69, 99, 74, 79, 99, 84, 99, 89, 94], 59) := by decide +kernel
theorem dX5_counted_60 : decode cX5_counted 60 = .ok (.aload_n 0, 1) := by decide +kernel
theorem dX5_counted_61 : decode cX5_counted 61 = .ok (.getfield 36, 3) := by decide +kernel
theorem dX5_counted_64 : decode cX5_counted 64 = .ok (.ireturn, 1) := by decide +kernel
theorem dX5_counted_65 : decode cX5_counted 65 = .ok (.aload_n 0, 1) := by decide +kernel
theorem dX5_counted_66 : decode cX5_counted 66 = .ok (.invokevirtual 153, 3) := by decide +kernel
theorem dX5_counted_69 : decode cX5_counted 69 = .ok (.ireturn, 1) := by decide +kernel
theorem dX5_counted_70 : decode cX5_counted 70 = .ok (.aload_n 0, 1) := by decide +kernel
theorem dX5_counted_71 : decode cX5_counted 71 = .ok (.getfield 39, 3) := by decide +kernel
theorem dX5_counted_74 : decode cX5_counted 74 = .ok (.ireturn, 1) := by decide +kernel
theorem dX5_counted_75 : decode cX5_counted 75 = .ok (.aload_n 0, 1) := by decide +kernel
theorem dX5_counted_76 : decode cX5_counted 76 = .ok (.invokevirtual 157, 3) := by decide +kernel
theorem dX5_counted_79 : decode cX5_counted 79 = .ok (.ireturn, 1) := by decide +kernel
theorem dX5_counted_80 : decode cX5_counted 80 = .ok (.aload_n 0, 1) := by decide +kernel
theorem dX5_counted_81 : decode cX5_counted 81 = .ok (.invokevirtual 160, 3) := by decide +kernel
theorem dX5_counted_84 : decode cX5_counted 84 = .ok (.ireturn, 1) := by decide +kernel
theorem dX5_counted_85 : decode cX5_counted 85 = .ok (.aload_n 0, 1) := by decide +kernel
theorem dX5_counted_86 : decode cX5_counted 86 = .ok (.getfield 106, 3) := by decide +kernel
theorem dX5_counted_89 : decode cX5_counted 89 = .ok (.ireturn, 1) := by decide +kernel
theorem dX5_counted_90 : decode cX5_counted 90 = .ok (.aload_n 0, 1) := by decide +kernel
theorem dX5_counted_91 : decode cX5_counted 91 = .ok (.getfield 103, 3) := by decide +kernel
theorem dX5_counted_94 : decode cX5_counted 94 = .ok (.ireturn, 1) := by decide +kernel
theorem dX5_counted_95 : decode cX5_counted 95 = .ok (.aload_n 0, 1) := by decide +kernel
theorem dX5_counted_96 : decode cX5_counted 96 = .ok (.invokevirtual 163, 3) := by decide +kernel
theorem dX5_counted_99 : decode cX5_counted 99 = .ok (.ireturn, 1) := by decide +kernel
theorem dX5_counted_100 : decode cX5_counted 100 = .ok (.aload_n 0, 1) := by decide +kernel
theorem dX5_counted_101 : decode cX5_counted 101 = .ok (.iload_n 1, 1) := by decide +kernel
theorem dX5_counted_102 : decode cX5_counted 102 = .ok (.invokevirtual 166, 3) := by decide +kernel
theorem dX5_counted_105 : decode cX5_counted 105 = .ok (.ireturn, 1) := by decide +kernel
theorem dX5_count_0 : decode cX5_count 0 = .ok (.aload_n 0, 1) := by decide +kernel
theorem dX5_count_1 : decode cX5_count 1 = .ok (.iconst 0, 1) := by decide +kernel
theorem dX5_count_2 : decode cX5_count 2 = .ok (.putfield 28, 3) := by decide +kernel
theorem dX5_count_5 : decode cX5_count 5 = .ok (.iload_n 1, 1) := by decide +kernel
theorem dX5_count_6 : decode cX5_count 6 = .ok (.iconst 0, 1) := by decide +kernel
theorem dX5_count_7 : decode cX5_count 7 = .ok (.bipush 10, 2) := by decide +kernel
theorem dX5_count_9 : decode cX5_count 9 = .ok (.invokestatic 32, 3) := by decide +kernel
theorem dX5_count_12 : decode cX5_count 12 = .ok (.ifCond .eq 11, 3) := by decide +kernel
theorem dX5_count_15 : decode cX5_count 15 = .ok (.aload_n 0, 1) := by decide +kernel
theorem dX5_count_16 : decode cX5_count 16 = .ok (.iload_n 1, 1) := by decide +kernel
theorem dX5_count_17 : decode cX5_count 17 = .ok (.invokevirtual 94, 3) := by decide +kernel
theorem dX5_count_20 : decode cX5_count 20 = .ok (.goto 8, 3) := by decide +kernel
theorem dX5_count_23 : decode cX5_count 23 = .ok (.aload_n 0, 1) := by decide +kernel
theorem dX5_count_24 : decode cX5_count 24 = .ok (.iconst 1, 1) := by decide +kernel
theorem dX5_count_25 : decode cX5_count 25 = .ok (.invokevirtual 78, 3) := by decide +kernel
theorem dX5_count_28 : decode cX5_count 28 = .ok (.ireturn, 1) := by decide +kernel
theorem dX5_would_0 : decode cX5_would 0 = .ok (.aload_n 0, 1) := by decide +kernel
theorem dX5_would_1 : decode cX5_would 1 = .ok (.iconst 0, 1) := by decide +kernel
theorem dX5_would_2 : decode cX5_would 2 = .ok (.putfield 28, 3) := by decide +kernel
theorem dX5_would_5 : decode cX5_would 5 = .ok (.aload_n 0, 1) := by decide +kernel
theorem dX5_would_6 : decode cX5_would 6 = .ok (.iload_n 1, 1) := by decide +kernel
theorem dX5_would_7 : decode cX5_would 7 = .ok (.invokevirtual 143, 3) := by decide +kernel
theorem dX5_would_10 : decode cX5_would 10 = .ok (.ifCond .ne 9, 3) := by decide +kernel
theorem dX5_would_13 : decode cX5_would 13 = .ok (.aload_n 0, 1) := by decide +kernel
theorem dX5_would_14 : decode cX5_would 14 = .ok (.iconst 1, 1) := by decide +kernel
theorem dX5_would_15 : decode cX5_would 15 = .ok (.invokevirtual 78, 3) := by decide +kernel
theorem dX5_would_18 : decode cX5_would 18 = .ok (.ireturn, 1) := by decide +kernel
theorem dX5_would_19 : decode cX5_would 19 = .ok (.iload_n 2, 1) := by decide +kernel
theorem dX5_would_20 : decode cX5_would 20 = .ok (.iconst 1, 1) := by decide +kernel
theorem dX5_would_21 : decode cX5_would 21 = .ok (.bipush 20, 2) := by decide +kernel
theorem dX5_would_23 : decode cX5_would 23 = .ok (.invokestatic 32, 3) := by decide +kernel
theorem dX5_would_26 : decode cX5_would 26 = .ok (.ifCond .ne 9, 3) := by decide +kernel
theorem dX5_would_29 : decode cX5_would 29 = .ok (.aload_n 0, 1) := by decide +kernel
theorem dX5_would_30 : decode cX5_would 30 = .ok (.iconst 2, 1) := by decide +kernel
theorem dX5_would_31 : decode cX5_would 31 = .ok (.invokevirtual 78, 3) := by decide +kernel
theorem dX5_would_34 : decode cX5_would 34 = .ok (.ireturn, 1) := by decide +kernel
theorem dX5_would_35 : decode cX5_would 35 = .ok (.aload_n 0, 1) := by decide +kernel
theorem dX5_would_36 : decode cX5_would 36 = .ok (.iload_n 2, 1) := by decide +kernel
theorem dX5_would_37 : decode cX5_would 37 = .ok (.invokevirtual 100, 3) := by decide +kernel
theorem dX5_would_40 : decode cX5_would 40 = .ok (.pop, 1) := by decide +kernel
theorem dX5_would_41 : decode cX5_would 41 = .ok (.aload_n 0, 1) := by decide +kernel
theorem dX5_would_42 : decode cX5_would 42 = .ok (.getfield 22, 3) := by decide +kernel
theorem dX5_would_45 : decode cX5_would 45 = .ok (.aload_n 0, 1) := by decide +kernel
theorem dX5_would_46 : decode cX5_would 46 = .ok (.getfield 13, 3) := by decide +kernel
theorem dX5_would_49 : decode cX5_would 49 = .ok (.iload_n 1, 1) := by decide +kernel
theorem dX5_would_50 : decode cX5_would 50 = .ok (.iaload, 1) := by decide +kernel
theorem dX5_would_51 : decode cX5_would 51 = .ok (.iaload, 1) := by decide +kernel
theorem dX5_would_52 : decode cX5_would 52 = .ok (.ireturn, 1) := by decide +kernel
theorem dX5_best_0 : decode cX5_best 0 = .ok (.aload_n 0, 1) := by decide +kernel
theorem dX5_best_1 : decode cX5_best 1 = .ok (.iconst 0, 1) := by decide +kernel
theorem dX5_best_2 : decode cX5_best 2 = .ok (.putfield 28, 3) := by decide +kernel
theorem dX5_best_5 : decode cX5_best 5 = .ok (.iload_n 1, 1) := by decide +kernel
theorem dX5_best_6 : decode cX5_best 6 = .ok (.iconst 1, 1) := by decide +kernel
theorem dX5_best_7 : decode cX5_best 7 = .ok (.bipush 24, 2) := by decide +kernel
theorem dX5_best_9 : decode cX5_best 9 = .ok (.invokestatic 32, 3) := by decide +kernel
theorem dX5_best_12 : decode cX5_best 12 = .ok (.ifCond .eq 13, 3) := by decide +kernel
theorem dX5_best_15 : decode cX5_best 15 = .ok (.iload_n 2, 1) := by decide +kernel
theorem dX5_best_16 : decode cX5_best 16 = .ok (.iconst 1, 1) := by decide +kernel
theorem dX5_best_17 : decode cX5_best 17 = .ok (.bipush 24, 2) := by decide +kernel
theorem dX5_best_19 : decode cX5_best 19 = .ok (.invokestatic 32, 3) := by decide +kernel
theorem dX5_best_22 : decode cX5_best 22 = .ok (.ifCond .ne 9, 3) := by decide +kernel
theorem dX5_best_25 : decode cX5_best 25 = .ok (.aload_n 0, 1) := by decide +kernel
theorem dX5_best_26 : decode cX5_best 26 = .ok (.iconst 1, 1) := by decide +kernel
theorem dX5_best_27 : decode cX5_best 27 = .ok (.invokevirtual 78, 3) := by decide +kernel
theorem dX5_best_30 : decode cX5_best 30 = .ok (.ireturn, 1) := by decide +kernel
theorem dX5_best_31 : decode cX5_best 31 = .ok (.iload_n 3, 1) := by decide +kernel
theorem dX5_best_32 : decode cX5_best 32 = .ok (.iconst 0, 1) := by decide +kernel
theorem dX5_best_33 : decode cX5_best 33 = .ok (.iconst 2, 1) := by decide +kernel
theorem dX5_best_34 : decode cX5_best 34 = .ok (.invokestatic 32, 3) := by decide +kernel
theorem dX5_best_37 : decode cX5_best 37 = .ok (.ifCond .ne 9, 3) := by decide +kernel
theorem dX5_best_40 : decode cX5_best 40 = .ok (.aload_n 0, 1) := by decide +kernel
theorem dX5_best_41 : decode cX5_best 41 = .ok (.iconst 2, 1) := by decide +kernel
theorem dX5_best_42 : decode cX5_best 42 = .ok (.invokevirtual 78, 3) := by decide +kernel
theorem dX5_best_45 : decode cX5_best 45 = .ok (.ireturn, 1) := by decide +kernel
theorem dX5_best_46 : decode cX5_best 46 = .ok (.bipush 24, 2) := by decide +kernel
theorem dX5_best_48 : decode cX5_best 48 = .ok (.newarray .int, 2) := by decide +kernel
theorem dX5_best_50 : decode cX5_best 50 = .ok (.astore 4, 2) := by decide +kernel
theorem dX5_best_52 : decode cX5_best 52 = .ok (.iconst 0, 1) := by decide +kernel
theorem dX5_best_53 : decode cX5_best 53 = .ok (.istore 5, 2) := by decide +kernel
theorem dX5_best_55 : decode cX5_best 55 = .ok (.iload 5, 2) := by decide +kernel
theorem dX5_best_57 : decode cX5_best 57 = .ok (.bipush 24, 2) := by decide +kernel
theorem dX5_best_59 : decode cX5_best 59 = .ok (.if_icmp .ge 22, 3) := by decide +kernel
theorem dX5_best_62 : decode cX5_best 62 = .ok (.aload 4, 2) := by decide +kernel
theorem dX5_best_64 : decode cX5_best 64 = .ok (.iload 5, 2) := by decide +kernel
theorem dX5_best_66 : decode cX5_best 66 = .ok (.aload_n 0, 1) := by decide +kernel
theorem dX5_best_67 : decode cX5_best 67 = .ok (.iload 5, 2) := by decide +kernel
theorem dX5_best_69 : decode cX5_best 69 = .ok (.invokevirtual 129, 3) := by decide +kernel
theorem dX5_best_72 : decode cX5_best 72 = .ok (.iconst (-1), 1) := by decide +kernel
theorem dX5_best_73 : decode cX5_best 73 = .ok (.ixor, 1) := by decide +kernel
theorem dX5_best_74 : decode cX5_best 74 = .ok (.iastore, 1) := by decide +kernel
theorem dX5_best_75 : decode cX5_best 75 = .ok (.iinc 5 1, 3) := by decide +kernel
theorem dX5_best_78 : decode cX5_best 78 = .ok (.goto (-23), 3) := by decide +kernel
theorem dX5_best_81 : decode cX5_best 81 = .ok (.iconst 3, 1) := by decide +kernel
theorem dX5_best_82 : decode cX5_best 82 = .ok (.newarray .int, 2) := by decide +kernel
theorem dX5_best_84 : decode cX5_best 84 = .ok (.dup, 1) := by decide +kernel
theorem dX5_best_85 : decode cX5_best 85 = .ok (.iconst 0, 1) := by decide +kernel
theorem dX5_best_86 : decode cX5_best 86 = .ok (.iconst 0, 1) := by decide +kernel
theorem dX5_best_87 : decode cX5_best 87 = .ok (.iastore, 1) := by decide +kernel
theorem dX5_best_88 : decode cX5_best 88 = .ok (.dup, 1) := by decide +kernel
theorem dX5_best_89 : decode cX5_best 89 = .ok (.iconst 1, 1) := by decide +kernel
theorem dX5_best_90 : decode cX5_best 90 = .ok (.iconst 0, 1) := by decide +kernel
theorem dX5_best_91 : decode cX5_best 91 = .ok (.iastore, 1) := by decide +kernel
theorem dX5_best_92 : decode cX5_best 92 = .ok (.dup, 1) := by decide +kernel
theorem dX5_best_93 : decode cX5_best 93 = .ok (.iconst 2, 1) := by decide +kernel
theorem dX5_best_94 : decode cX5_best 94 = .ok (.iconst (-1), 1) := by decide +kernel
theorem dX5_best_95 : decode cX5_best 95 = .ok (.iastore, 1) := by decide +kernel
theorem dX5_best_96 : decode cX5_best 96 = .ok (.astore 5, 2) := by decide +kernel
theorem dX5_best_98 : decode cX5_best 98 = .ok (.iconst 0, 1) := by decide +kernel
theorem dX5_best_99 : decode cX5_best 99 = .ok (.istore 6, 2) := by decide +kernel
theorem dX5_best_101 : decode cX5_best 101 = .ok (.iload 6, 2) := by decide +kernel
theorem dX5_best_103 : decode cX5_best 103 = .ok (.iload_n 2, 1) := by decide +kernel
theorem dX5_best_104 : decode cX5_best 104 = .ok (.iadd, 1) := by decide +kernel
theorem dX5_best_105 : decode cX5_best 105 = .ok (.bipush 24, 2) := by decide +kernel
theorem dX5_best_107 : decode cX5_best 107 = .ok (.if_icmp .gt 99, 3) := by decide +kernel
theorem dX5_best_110 : decode cX5_best 110 = .ok (.iconst 0, 1) := by decide +kernel
theorem dX5_best_111 : decode cX5_best 111 = .ok (.istore 7, 2) := by decide +kernel
theorem dX5_best_113 : decode cX5_best 113 = .ok (.iload 7, 2) := by decide +kernel
theorem dX5_best_115 : decode cX5_best 115 = .ok (.iload_n 1, 1) := by decide +kernel
theorem dX5_best_116 : decode cX5_best 116 = .ok (.iadd, 1) := by decide +kernel
theorem dX5_best_117 : decode cX5_best 117 = .ok (.bipush 24, 2) := by decide +kernel
theorem dX5_best_119 : decode cX5_best 119 = .ok (.if_icmp .gt 81, 3) := by decide +kernel
theorem dX5_best_122 : decode cX5_best 122 = .ok (.iconst 0, 1) := by decide +kernel
theorem dX5_best_123 : decode cX5_best 123 = .ok (.istore 8, 2) := by decide +kernel
theorem dX5_best_125 : decode cX5_best 125 = .ok (.iload 7, 2) := by decide +kernel
theorem dX5_best_127 : decode cX5_best 127 = .ok (.istore 9, 2) := by decide +kernel
theorem dX5_best_129 : decode cX5_best 129 = .ok (.iload 9, 2) := by decide +kernel
theorem dX5_best_131 : decode cX5_best 131 = .ok (.iload 7, 2) := by decide +kernel
theorem dX5_best_133 : decode cX5_best 133 = .ok (.iload_n 1, 1) := by decide +kernel
theorem dX5_best_134 : decode cX5_best 134 = .ok (.iadd, 1) := by decide +kernel
theorem dX5_best_135 : decode cX5_best 135 = .ok (.if_icmp .ge 29, 3) := by decide +kernel
theorem dX5_best_138 : decode cX5_best 138 = .ok (.iload 8, 2) := by decide +kernel
theorem dX5_best_140 : decode cX5_best 140 = .ok (.aload 4, 2) := by decide +kernel
theorem dX5_best_142 : decode cX5_best 142 = .ok (.iload 9, 2) := by decide +kernel
theorem dX5_best_144 : decode cX5_best 144 = .ok (.iaload, 1) := by decide +kernel
theorem dX5_best_145 : decode cX5_best 145 = .ok (.iload 6, 2) := by decide +kernel
theorem dX5_best_147 : decode cX5_best 147 = .ok (.iload_n 2, 1) := by decide +kernel
theorem dX5_best_148 : decode cX5_best 148 = .ok (.invokestatic 50, 3) := by decide +kernel
theorem dX5_best_151 : decode cX5_best 151 = .ok (.iand, 1) := by decide +kernel
theorem dX5_best_152 : decode cX5_best 152 = .ok (.invokestatic 109, 3) := by decide +kernel
theorem dX5_best_155 : decode cX5_best 155 = .ok (.iadd, 1) := by decide +kernel
theorem dX5_best_156 : decode cX5_best 156 = .ok (.istore 8, 2) := by decide +kernel
theorem dX5_best_158 : decode cX5_best 158 = .ok (.iinc 9 1, 3) := by decide +kernel
theorem dX5_best_161 : decode cX5_best 161 = .ok (.goto (-32), 3) := by decide +kernel
theorem dX5_best_164 : decode cX5_best 164 = .ok (.iload 8, 2) := by decide +kernel
theorem dX5_best_166 : decode cX5_best 166 = .ok (.aload 5, 2) := by decide +kernel
theorem dX5_best_168 : decode cX5_best 168 = .ok (.iconst 2, 1) := by decide +kernel
theorem dX5_best_169 : decode cX5_best 169 = .ok (.iaload, 1) := by decide +kernel
theorem dX5_best_170 : decode cX5_best 170 = .ok (.if_icmp .gt 6, 3) := by decide +kernel
theorem dX5_best_173 : decode cX5_best 173 = .ok (.goto 21, 3) := by decide +kernel
theorem dX5_best_176 : decode cX5_best 176 = .ok (.aload 5, 2) := by decide +kernel
theorem dX5_best_178 : decode cX5_best 178 = .ok (.iconst 0, 1) := by decide +kernel
theorem dX5_best_179 : decode cX5_best 179 = .ok (.iload 7, 2) := by decide +kernel
theorem dX5_best_181 : decode cX5_best 181 = .ok (.iastore, 1) := by decide +kernel
theorem dX5_best_182 : decode cX5_best 182 = .ok (.aload 5, 2) := by decide +kernel
theorem dX5_best_184 : decode cX5_best 184 = .ok (.iconst 1, 1) := by decide +kernel
theorem dX5_best_185 : decode cX5_best 185 = .ok (.iload 6, 2) := by decide +kernel
theorem dX5_best_187 : decode cX5_best 187 = .ok (.iastore, 1) := by decide +kernel
theorem dX5_best_188 : decode cX5_best 188 = .ok (.aload 5, 2) := by decide +kernel
theorem dX5_best_190 : decode cX5_best 190 = .ok (.iconst 2, 1) := by decide +kernel
theorem dX5_best_191 : decode cX5_best 191 = .ok (.iload 8, 2) := by decide +kernel
theorem dX5_best_193 : decode cX5_best 193 = .ok (.iastore, 1) := by decide +kernel
theorem dX5_best_194 : decode cX5_best 194 = .ok (.iinc 7 1, 3) := by decide +kernel
theorem dX5_best_197 : decode cX5_best 197 = .ok (.goto (-84), 3) := by decide +kernel
theorem dX5_best_200 : decode cX5_best 200 = .ok (.iinc 6 1, 3) := by decide +kernel
theorem dX5_best_203 : decode cX5_best 203 = .ok (.goto (-102), 3) := by decide +kernel
theorem dX5_best_206 : decode cX5_best 206 = .ok (.aload 5, 2) := by decide +kernel
theorem dX5_best_208 : decode cX5_best 208 = .ok (.iload_n 3, 1) := by decide +kernel
theorem dX5_best_209 : decode cX5_best 209 = .ok (.iaload, 1) := by decide +kernel
theorem dX5_best_210 : decode cX5_best 210 = .ok (.ireturn, 1) := by decide +kernel
theorem dX5_advise_0 : decode cX5_advise 0 = .ok (.aload_n 0, 1) := by decide +kernel
theorem dX5_advise_1 : decode cX5_advise 1 = .ok (.iconst 0, 1) := by decide +kernel
theorem dX5_advise_2 : decode cX5_advise 2 = .ok (.putfield 28, 3) := by decide +kernel
theorem dX5_advise_5 : decode cX5_advise 5 = .ok (.iconst (-1), 1) := by decide +kernel
theorem dX5_advise_6 : decode cX5_advise 6 = .ok (.istore_n 1, 1) := by decide +kernel
theorem dX5_advise_7 : decode cX5_advise 7 = .ok (.iconst 0, 1) := by decide +kernel
theorem dX5_advise_8 : decode cX5_advise 8 = .ok (.istore_n 2, 1) := by decide +kernel
theorem dX5_advise_9 : decode cX5_advise 9 = .ok (.iload_n 2, 1) := by decide +kernel
theorem dX5_advise_10 : decode cX5_advise 10 = .ok (.aload_n 0, 1) := by decide +kernel
theorem dX5_advise_11 : decode cX5_advise 11 = .ok (.getfield 36, 3) := by decide +kernel
theorem dX5_advise_14 : decode cX5_advise 14 = .ok (.if_icmp .ge 37, 3) := by decide +kernel
theorem dX5_advise_17 : decode cX5_advise 17 = .ok (.aload_n 0, 1) := by decide +kernel
theorem dX5_advise_18 : decode cX5_advise 18 = .ok (.iload_n 2, 1) := by decide +kernel
theorem dX5_advise_19 : decode cX5_advise 19 = .ok (.invokevirtual 46, 3) := by decide +kernel
theorem dX5_advise_22 : decode cX5_advise 22 = .ok (.ifCond .eq 23, 3) := by decide +kernel
theorem dX5_advise_25 : decode cX5_advise 25 = .ok (.iload_n 1, 1) := by decide +kernel
theorem dX5_advise_26 : decode cX5_advise 26 = .ok (.iconst (-1), 1) := by decide +kernel
theorem dX5_advise_27 : decode cX5_advise 27 = .ok (.if_icmp .eq 16, 3) := by decide +kernel
theorem dX5_advise_30 : decode cX5_advise 30 = .ok (.aload_n 0, 1) := by decide +kernel
theorem dX5_advise_31 : decode cX5_advise 31 = .ok (.iload_n 2, 1) := by decide +kernel
theorem dX5_advise_32 : decode cX5_advise 32 = .ok (.invokevirtual 112, 3) := by decide +kernel
theorem dX5_advise_35 : decode cX5_advise 35 = .ok (.aload_n 0, 1) := by decide +kernel
theorem dX5_advise_36 : decode cX5_advise 36 = .ok (.iload_n 1, 1) := by decide +kernel
theorem dX5_advise_37 : decode cX5_advise 37 = .ok (.invokevirtual 112, 3) := by decide +kernel
theorem dX5_advise_40 : decode cX5_advise 40 = .ok (.if_icmp .ge 5, 3) := by decide +kernel
theorem dX5_advise_43 : decode cX5_advise 43 = .ok (.iload_n 2, 1) := by decide +kernel
theorem dX5_advise_44 : decode cX5_advise 44 = .ok (.istore_n 1, 1) := by decide +kernel
theorem dX5_advise_45 : decode cX5_advise 45 = .ok (.iinc 2 1, 3) := by decide +kernel
theorem dX5_advise_48 : decode cX5_advise 48 = .ok (.goto (-39), 3) := by decide +kernel
theorem dX5_advise_51 : decode cX5_advise 51 = .ok (.iload_n 1, 1) := by decide +kernel
theorem dX5_advise_52 : decode cX5_advise 52 = .ok (.ireturn, 1) := by decide +kernel
theorem dX5_mean_0 : decode cX5_mean 0 = .ok (.aload_n 0, 1) := by decide +kernel
theorem dX5_mean_1 : decode cX5_mean 1 = .ok (.iconst 0, 1) := by decide +kernel
theorem dX5_mean_2 : decode cX5_mean 2 = .ok (.putfield 28, 3) := by decide +kernel
theorem dX5_mean_5 : decode cX5_mean 5 = .ok (.iconst 0, 1) := by decide +kernel
theorem dX5_mean_6 : decode cX5_mean 6 = .ok (.istore_n 1, 1) := by decide +kernel
theorem dX5_mean_7 : decode cX5_mean 7 = .ok (.iconst 0, 1) := by decide +kernel
theorem dX5_mean_8 : decode cX5_mean 8 = .ok (.istore_n 2, 1) := by decide +kernel
theorem dX5_mean_9 : decode cX5_mean 9 = .ok (.iload_n 2, 1) := by decide +kernel
theorem dX5_mean_10 : decode cX5_mean 10 = .ok (.aload_n 0, 1) := by decide +kernel
theorem dX5_mean_11 : decode cX5_mean 11 = .ok (.getfield 39, 3) := by decide +kernel
theorem dX5_mean_14 : decode cX5_mean 14 = .ok (.if_icmp .ge 17, 3) := by decide +kernel
theorem dX5_mean_17 : decode cX5_mean 17 = .ok (.iload_n 1, 1) := by decide +kernel
theorem dX5_mean_18 : decode cX5_mean 18 = .ok (.aload_n 0, 1) := by decide +kernel
theorem dX5_mean_19 : decode cX5_mean 19 = .ok (.iload_n 2, 1) := by decide +kernel
theorem dX5_mean_20 : decode cX5_mean 20 = .ok (.invokevirtual 140, 3) := by decide +kernel
theorem dX5_mean_23 : decode cX5_mean 23 = .ok (.iadd, 1) := by decide +kernel
theorem dX5_mean_24 : decode cX5_mean 24 = .ok (.istore_n 1, 1) := by decide +kernel
theorem dX5_mean_25 : decode cX5_mean 25 = .ok (.iinc 2 1, 3) := by decide +kernel
theorem dX5_mean_28 : decode cX5_mean 28 = .ok (.goto (-19), 3) := by decide +kernel
theorem dX5_mean_31 : decode cX5_mean 31 = .ok (.aload_n 0, 1) := by decide +kernel
theorem dX5_mean_32 : decode cX5_mean 32 = .ok (.getfield 39, 3) := by decide +kernel
theorem dX5_mean_35 : decode cX5_mean 35 = .ok (.ifCond .ne 7, 3) := by decide +kernel
theorem dX5_mean_38 : decode cX5_mean 38 = .ok (.dconst 0, 1) := by decide +kernel
theorem dX5_mean_39 : decode cX5_mean 39 = .ok (.goto 11, 3) := by decide +kernel
theorem dX5_mean_42 : decode cX5_mean 42 = .ok (.iload_n 1, 1) := by decide +kernel
theorem dX5_mean_43 : decode cX5_mean 43 = .ok (.i2d, 1) := by decide +kernel
theorem dX5_mean_44 : decode cX5_mean 44 = .ok (.aload_n 0, 1) := by decide +kernel
theorem dX5_mean_45 : decode cX5_mean 45 = .ok (.getfield 39, 3) := by decide +kernel
theorem dX5_mean_48 : decode cX5_mean 48 = .ok (.i2d, 1) := by decide +kernel
theorem dX5_mean_49 : decode cX5_mean 49 = .ok (.ddiv, 1) := by decide +kernel
theorem dX5_mean_50 : decode cX5_mean 50 = .ok (.dreturn, 1) := by decide +kernel
theorem dX5_digest_0 : decode cX5_digest 0 = .ok (.aload_n 0, 1) := by decide +kernel
theorem dX5_digest_1 : decode cX5_digest 1 = .ok (.iconst 0, 1) := by decide +kernel
theorem dX5_digest_2 : decode cX5_digest 2 = .ok (.putfield 28, 3) := by decide +kernel
theorem dX5_digest_5 : decode cX5_digest 5 = .ok (.ldc2_w 169, 3) := by decide +kernel
theorem dX5_digest_8 : decode cX5_digest 8 = .ok (.lstore_n 1, 1) := by decide +kernel
theorem dX5_digest_9 : decode cX5_digest 9 = .ok (.iconst 0, 1) := by decide +kernel
theorem dX5_digest_10 : decode cX5_digest 10 = .ok (.istore_n 3, 1) := by decide +kernel
theorem dX5_digest_11 : decode cX5_digest 11 = .ok (.iload_n 3, 1) := by decide +kernel
theorem dX5_digest_12 : decode cX5_digest 12 = .ok (.bipush 10, 2) := by decide +kernel
theorem dX5_digest_14 : decode cX5_digest 14 = .ok (.if_icmp .gt 22, 3) := by decide +kernel
theorem dX5_digest_17 : decode cX5_digest 17 = .ok (.lload_n 1, 1) := by decide +kernel
theorem dX5_digest_18 : decode cX5_digest 18 = .ok (.ldc2_w 171, 3) := by decide +kernel
theorem dX5_digest_21 : decode cX5_digest 21 = .ok (.lmul, 1) := by decide +kernel
theorem dX5_digest_22 : decode cX5_digest 22 = .ok (.aload_n 0, 1) := by decide +kernel
theorem dX5_digest_23 : decode cX5_digest 23 = .ok (.iload_n 3, 1) := by decide +kernel
theorem dX5_digest_24 : decode cX5_digest 24 = .ok (.invokevirtual 94, 3) := by decide +kernel
theorem dX5_digest_27 : decode cX5_digest 27 = .ok (.i2l, 1) := by decide +kernel
theorem dX5_digest_28 : decode cX5_digest 28 = .ok (.ladd, 1) := by decide +kernel
theorem dX5_digest_29 : decode cX5_digest 29 = .ok (.lstore_n 1, 1) := by decide +kernel
theorem dX5_digest_30 : decode cX5_digest 30 = .ok (.iinc 3 1, 3) := by decide +kernel
theorem dX5_digest_33 : decode cX5_digest 33 = .ok (.goto (-22), 3) := by decide +kernel
theorem dX5_digest_36 : decode cX5_digest 36 = .ok (.iconst 0, 1) := by decide +kernel
theorem dX5_digest_37 : decode cX5_digest 37 = .ok (.istore_n 3, 1) := by decide +kernel
theorem dX5_digest_38 : decode cX5_digest 38 = .ok (.iload_n 3, 1) := by decide +kernel
theorem dX5_digest_39 : decode cX5_digest 39 = .ok (.aload_n 0, 1) := by decide +kernel
theorem dX5_digest_40 : decode cX5_digest 40 = .ok (.getfield 36, 3) := by decide +kernel
theorem dX5_digest_43 : decode cX5_digest 43 = .ok (.if_icmp .ge 40, 3) := by decide +kernel
theorem dX5_digest_46 : decode cX5_digest 46 = .ok (.iconst 0, 1) := by decide +kernel
theorem dX5_digest_47 : decode cX5_digest 47 = .ok (.istore 4, 2) := by decide +kernel
theorem dX5_digest_49 : decode cX5_digest 49 = .ok (.iload 4, 2) := by decide +kernel
theorem dX5_digest_51 : decode cX5_digest 51 = .ok (.bipush 8, 2) := by decide +kernel
theorem dX5_digest_53 : decode cX5_digest 53 = .ok (.if_icmp .gt 24, 3) := by decide +kernel
theorem dX5_digest_56 : decode cX5_digest 56 = .ok (.lload_n 1, 1) := by decide +kernel
theorem dX5_digest_57 : decode cX5_digest 57 = .ok (.ldc2_w 171, 3) := by decide +kernel
theorem dX5_digest_60 : decode cX5_digest 60 = .ok (.lmul, 1) := by decide +kernel
theorem dX5_digest_61 : decode cX5_digest 61 = .ok (.aload_n 0, 1) := by decide +kernel
theorem dX5_digest_62 : decode cX5_digest 62 = .ok (.iload_n 3, 1) := by decide +kernel
theorem dX5_digest_63 : decode cX5_digest 63 = .ok (.iload 4, 2) := by decide +kernel
theorem dX5_digest_65 : decode cX5_digest 65 = .ok (.invokevirtual 115, 3) := by decide +kernel
theorem dX5_digest_68 : decode cX5_digest 68 = .ok (.i2l, 1) := by decide +kernel
theorem dX5_digest_69 : decode cX5_digest 69 = .ok (.ladd, 1) := by decide +kernel
theorem dX5_digest_70 : decode cX5_digest 70 = .ok (.lstore_n 1, 1) := by decide +kernel
theorem dX5_digest_71 : decode cX5_digest 71 = .ok (.iinc 4 1, 3) := by decide +kernel
theorem dX5_digest_74 : decode cX5_digest 74 = .ok (.goto (-25), 3) := by decide +kernel
theorem dX5_digest_77 : decode cX5_digest 77 = .ok (.iinc 3 1, 3) := by decide +kernel
theorem dX5_digest_80 : decode cX5_digest 80 = .ok (.goto (-42), 3) := by decide +kernel
theorem dX5_digest_83 : decode cX5_digest 83 = .ok (.iconst 0, 1) := by decide +kernel
theorem dX5_digest_84 : decode cX5_digest 84 = .ok (.istore_n 3, 1) := by decide +kernel
theorem dX5_digest_85 : decode cX5_digest 85 = .ok (.iload_n 3, 1) := by decide +kernel
theorem dX5_digest_86 : decode cX5_digest 86 = .ok (.aload_n 0, 1) := by decide +kernel
theorem dX5_digest_87 : decode cX5_digest 87 = .ok (.getfield 39, 3) := by decide +kernel
theorem dX5_digest_90 : decode cX5_digest 90 = .ok (.if_icmp .ge 39, 3) := by decide +kernel
theorem dX5_digest_93 : decode cX5_digest 93 = .ok (.iconst 0, 1) := by decide +kernel
theorem dX5_digest_94 : decode cX5_digest 94 = .ok (.istore 4, 2) := by decide +kernel
theorem dX5_digest_96 : decode cX5_digest 96 = .ok (.iload 4, 2) := by decide +kernel
theorem dX5_digest_98 : decode cX5_digest 98 = .ok (.iconst 3, 1) := by decide +kernel
theorem dX5_digest_99 : decode cX5_digest 99 = .ok (.if_icmp .gt 24, 3) := by decide +kernel
theorem dX5_digest_102 : decode cX5_digest 102 = .ok (.lload_n 1, 1) := by decide +kernel
theorem dX5_digest_103 : decode cX5_digest 103 = .ok (.ldc2_w 171, 3) := by decide +kernel
theorem dX5_digest_106 : decode cX5_digest 106 = .ok (.lmul, 1) := by decide +kernel
theorem dX5_digest_107 : decode cX5_digest 107 = .ok (.aload_n 0, 1) := by decide +kernel
theorem dX5_digest_108 : decode cX5_digest 108 = .ok (.iload_n 3, 1) := by decide +kernel
theorem dX5_digest_109 : decode cX5_digest 109 = .ok (.iload 4, 2) := by decide +kernel
theorem dX5_digest_111 : decode cX5_digest 111 = .ok (.invokevirtual 146, 3) := by decide +kernel
theorem dX5_digest_114 : decode cX5_digest 114 = .ok (.i2l, 1) := by decide +kernel
theorem dX5_digest_115 : decode cX5_digest 115 = .ok (.ladd, 1) := by decide +kernel
theorem dX5_digest_116 : decode cX5_digest 116 = .ok (.lstore_n 1, 1) := by decide +kernel
theorem dX5_digest_117 : decode cX5_digest 117 = .ok (.iinc 4 1, 3) := by decide +kernel
theorem dX5_digest_120 : decode cX5_digest 120 = .ok (.goto (-24), 3) := by decide +kernel
theorem dX5_digest_123 : decode cX5_digest 123 = .ok (.iinc 3 1, 3) := by decide +kernel
theorem dX5_digest_126 : decode cX5_digest 126 = .ok (.goto (-41), 3) := by decide +kernel
theorem dX5_digest_129 : decode cX5_digest 129 = .ok (.iconst 0, 1) := by decide +kernel
theorem dX5_digest_130 : decode cX5_digest 130 = .ok (.istore_n 3, 1) := by decide +kernel
theorem dX5_digest_131 : decode cX5_digest 131 = .ok (.iload_n 3, 1) := by decide +kernel
theorem dX5_digest_132 : decode cX5_digest 132 = .ok (.bipush 24, 2) := by decide +kernel
theorem dX5_digest_134 : decode cX5_digest 134 = .ok (.if_icmp .ge 87, 3) := by decide +kernel
theorem dX5_digest_137 : decode cX5_digest 137 = .ok (.iconst 0, 1) := by decide +kernel
theorem dX5_digest_138 : decode cX5_digest 138 = .ok (.istore 4, 2) := by decide +kernel
theorem dX5_digest_140 : decode cX5_digest 140 = .ok (.iload 4, 2) := by decide +kernel
theorem dX5_digest_142 : decode cX5_digest 142 = .ok (.iconst 3, 1) := by decide +kernel
theorem dX5_digest_143 : decode cX5_digest 143 = .ok (.if_icmp .gt 24, 3) := by decide +kernel
theorem dX5_digest_146 : decode cX5_digest 146 = .ok (.lload_n 1, 1) := by decide +kernel
theorem dX5_digest_147 : decode cX5_digest 147 = .ok (.ldc2_w 171, 3) := by decide +kernel
theorem dX5_digest_150 : decode cX5_digest 150 = .ok (.lmul, 1) := by decide +kernel
theorem dX5_digest_151 : decode cX5_digest 151 = .ok (.aload_n 0, 1) := by decide +kernel
theorem dX5_digest_152 : decode cX5_digest 152 = .ok (.iload_n 3, 1) := by decide +kernel
theorem dX5_digest_153 : decode cX5_digest 153 = .ok (.iload 4, 2) := by decide +kernel
theorem dX5_digest_155 : decode cX5_digest 155 = .ok (.invokevirtual 137, 3) := by decide +kernel
theorem dX5_digest_158 : decode cX5_digest 158 = .ok (.i2l, 1) := by decide +kernel
theorem dX5_digest_159 : decode cX5_digest 159 = .ok (.ladd, 1) := by decide +kernel
theorem dX5_digest_160 : decode cX5_digest 160 = .ok (.lstore_n 1, 1) := by decide +kernel
theorem dX5_digest_161 : decode cX5_digest 161 = .ok (.iinc 4 1, 3) := by decide +kernel
theorem dX5_digest_164 : decode cX5_digest 164 = .ok (.goto (-24), 3) := by decide +kernel
theorem dX5_digest_167 : decode cX5_digest 167 = .ok (.iconst 0, 1) := by decide +kernel
theorem dX5_digest_168 : decode cX5_digest 168 = .ok (.istore 4, 2) := by decide +kernel
theorem dX5_digest_170 : decode cX5_digest 170 = .ok (.iload 4, 2) := by decide +kernel
theorem dX5_digest_172 : decode cX5_digest 172 = .ok (.bipush 24, 2) := by decide +kernel
theorem dX5_digest_174 : decode cX5_digest 174 = .ok (.if_icmp .ge 41, 3) := by decide +kernel
theorem dX5_digest_177 : decode cX5_digest 177 = .ok (.iconst 0, 1) := by decide +kernel
theorem dX5_digest_178 : decode cX5_digest 178 = .ok (.istore 5, 2) := by decide +kernel
theorem dX5_digest_180 : decode cX5_digest 180 = .ok (.iload 5, 2) := by decide +kernel
theorem dX5_digest_182 : decode cX5_digest 182 = .ok (.iconst 2, 1) := by decide +kernel
theorem dX5_digest_183 : decode cX5_digest 183 = .ok (.if_icmp .gt 26, 3) := by decide +kernel
theorem dX5_digest_186 : decode cX5_digest 186 = .ok (.lload_n 1, 1) := by decide +kernel
theorem dX5_digest_187 : decode cX5_digest 187 = .ok (.ldc2_w 171, 3) := by decide +kernel
theorem dX5_digest_190 : decode cX5_digest 190 = .ok (.lmul, 1) := by decide +kernel
theorem dX5_digest_191 : decode cX5_digest 191 = .ok (.aload_n 0, 1) := by decide +kernel
theorem dX5_digest_192 : decode cX5_digest 192 = .ok (.iload_n 3, 1) := by decide +kernel
theorem dX5_digest_193 : decode cX5_digest 193 = .ok (.iload 4, 2) := by decide +kernel
theorem dX5_digest_195 : decode cX5_digest 195 = .ok (.iload 5, 2) := by decide +kernel
theorem dX5_digest_197 : decode cX5_digest 197 = .ok (.invokevirtual 121, 3) := by decide +kernel
theorem dX5_digest_200 : decode cX5_digest 200 = .ok (.i2l, 1) := by decide +kernel
theorem dX5_digest_201 : decode cX5_digest 201 = .ok (.ladd, 1) := by decide +kernel
theorem dX5_digest_202 : decode cX5_digest 202 = .ok (.lstore_n 1, 1) := by decide +kernel
theorem dX5_digest_203 : decode cX5_digest 203 = .ok (.iinc 5 1, 3) := by decide +kernel
theorem dX5_digest_206 : decode cX5_digest 206 = .ok (.goto (-26), 3) := by decide +kernel
theorem dX5_digest_209 : decode cX5_digest 209 = .ok (.iinc 4 1, 3) := by decide +kernel
theorem dX5_digest_212 : decode cX5_digest 212 = .ok (.goto (-42), 3) := by decide +kernel
theorem dX5_digest_215 : decode cX5_digest 215 = .ok (.iinc 3 1, 3) := by decide +kernel
theorem dX5_digest_218 : decode cX5_digest 218 = .ok (.goto (-87), 3) := by decide +kernel
theorem dX5_digest_221 : decode cX5_digest 221 = .ok (.lload_n 1, 1) := by decide +kernel
theorem dX5_digest_222 : decode cX5_digest 222 = .ok (.lreturn, 1) := by decide +kernel
theorem dJ9_max_7cf53_0 : decode cJ9_max_7cf53 0 = .ok (.iload_n 0, 1) := by decide +kernel
theorem dJ9_max_7cf53_1 : decode cJ9_max_7cf53 1 = .ok (.iload_n 1, 1) := by decide +kernel
theorem dJ9_max_7cf53_2 : decode cJ9_max_7cf53 2 = .ok (.if_icmp .lt 7, 3) := by decide +kernel
theorem dJ9_max_7cf53_5 : decode cJ9_max_7cf53 5 = .ok (.iload_n 0, 1) := by decide +kernel
theorem dJ9_max_7cf53_6 : decode cJ9_max_7cf53 6 = .ok (.goto 4, 3) := by decide +kernel
theorem dJ9_max_7cf53_9 : decode cJ9_max_7cf53 9 = .ok (.iload_n 1, 1) := by decide +kernel
theorem dJ9_max_7cf53_10 : decode cJ9_max_7cf53 10 = .ok (.ireturn, 1) := by decide +kernel
theorem dJ9_min_7cf53_0 : decode cJ9_min_7cf53 0 = .ok (.iload_n 0, 1) := by decide +kernel
theorem dJ9_min_7cf53_1 : decode cJ9_min_7cf53 1 = .ok (.iload_n 1, 1) := by decide +kernel
theorem dJ9_min_7cf53_2 : decode cJ9_min_7cf53 2 = .ok (.if_icmp .gt 7, 3) := by decide +kernel
theorem dJ9_min_7cf53_5 : decode cJ9_min_7cf53 5 = .ok (.iload_n 0, 1) := by decide +kernel
theorem dJ9_min_7cf53_6 : decode cJ9_min_7cf53 6 = .ok (.goto 4, 3) := by decide +kernel
theorem dJ9_min_7cf53_9 : decode cJ9_min_7cf53 9 = .ok (.iload_n 1, 1) := by decide +kernel
theorem dJ9_min_7cf53_10 : decode cJ9_min_7cf53 10 = .ok (.ireturn, 1) := by decide +kernel
theorem dJxa1e45_init_da8c8_0 : decode cJxa1e45_init_da8c8 0 = .ok (.aload_n 0, 1) := by decide +kernel
theorem dJxa1e45_init_da8c8_1 : decode cJxa1e45_init_da8c8 1 = .ok (.invokespecial 1, 3) := by decide +kernel
theorem dJxa1e45_init_da8c8_4 : decode cJxa1e45_init_da8c8 4 = .ok (.return_, 1) := by decide +kernel
theorem dJxc12de_init_da8c8_0 : decode cJxc12de_init_da8c8 0 = .ok (.aload_n 0, 1) := by decide +kernel
theorem dJxc12de_init_da8c8_1 : decode cJxc12de_init_da8c8 1 = .ok (.invokespecial 1, 3) := by decide +kernel
theorem dJxc12de_init_da8c8_4 : decode cJxc12de_init_da8c8 4 = .ok (.aload_n 0, 1) := by decide +kernel
theorem dJxc12de_init_da8c8_5 : decode cJxc12de_init_da8c8 5 = .ok (.iconst 0, 1) := by decide +kernel
theorem dJxc12de_init_da8c8_6 : decode cJxc12de_init_da8c8 6 = .ok (.putfield 7, 3) := by decide +kernel
theorem dJxc12de_init_da8c8_9 : decode cJxc12de_init_da8c8 9 = .ok (.return_, 1) := by decide +kernel
theorem dJx4a65c_init_da8c8_0 : decode cJx4a65c_init_da8c8 0 = .ok (.aload_n 0, 1) := by decide +kernel
theorem dJx4a65c_init_da8c8_1 : decode cJx4a65c_init_da8c8 1 = .ok (.invokespecial 1, 3) := by decide +kernel
theorem dJx4a65c_init_da8c8_4 : decode cJx4a65c_init_da8c8 4 = .ok (.aload_n 0, 1) := by decide +kernel
theorem dJx4a65c_init_da8c8_5 : decode cJx4a65c_init_da8c8 5 = .ok (.getstatic 39, 3) := by decide +kernel
theorem dJx4a65c_init_da8c8_8 : decode cJx4a65c_init_da8c8 8 = .ok (.putfield 9, 3) := by decide +kernel
theorem dJx4a65c_init_da8c8_11 : decode cJx4a65c_init_da8c8 11 = .ok (.return_, 1) := by decide +kernel
theorem dJx4a65c_grow_92f84_0 : decode cJx4a65c_grow_92f84 0 = .ok (.aload_n 0, 1) := by decide +kernel
theorem dJx4a65c_grow_92f84_1 : decode cJx4a65c_grow_92f84 1 = .ok (.getfield 9, 3) := by decide +kernel
theorem dJx4a65c_grow_92f84_4 : decode cJx4a65c_grow_92f84 4 = .ok (.arraylength, 1) := by decide +kernel
theorem dJx4a65c_grow_92f84_5 : decode cJx4a65c_grow_92f84 5 = .ok (.istore_n 2, 1) := by decide +kernel
theorem dJx4a65c_grow_92f84_6 : decode cJx4a65c_grow_92f84 6 = .ok (.iload_n 2, 1) := by decide +kernel
theorem dJx4a65c_grow_92f84_7 : decode cJx4a65c_grow_92f84 7 = .ok (.ifCond .gt 13, 3) := by decide +kernel
theorem dJx4a65c_grow_92f84_10 : decode cJx4a65c_grow_92f84 10 = .ok (.aload_n 0, 1) := by decide +kernel
theorem dJx4a65c_grow_92f84_11 : decode cJx4a65c_grow_92f84 11 = .ok (.getfield 9, 3) := by decide +kernel
theorem dJx4a65c_grow_92f84_14 : decode cJx4a65c_grow_92f84 14 = .ok (.getstatic 39, 3) := by decide +kernel
theorem dJx4a65c_grow_92f84_17 : decode cJx4a65c_grow_92f84 17 = .ok (.if_acmp .eq 28, 3) := by decide +kernel
theorem dJx4a65c_grow_92f84_20 : decode cJx4a65c_grow_92f84 20 = .ok (.iload_n 2, 1) := by decide +kernel
theorem dJx4a65c_grow_92f84_21 : decode cJx4a65c_grow_92f84 21 = .ok (.iload_n 1, 1) := by decide +kernel
theorem dJx4a65c_grow_92f84_22 : decode cJx4a65c_grow_92f84 22 = .ok (.iload_n 2, 1) := by decide +kernel
theorem dJx4a65c_grow_92f84_23 : decode cJx4a65c_grow_92f84 23 = .ok (.isub, 1) := by decide +kernel
theorem dJx4a65c_grow_92f84_24 : decode cJx4a65c_grow_92f84 24 = .ok (.iload_n 2, 1) := by decide +kernel
theorem dJx4a65c_grow_92f84_25 : decode cJx4a65c_grow_92f84 25 = .ok (.iconst 1, 1) := by decide +kernel
theorem dJx4a65c_grow_92f84_26 : decode cJx4a65c_grow_92f84 26 = .ok (.ishr, 1) := by decide +kernel
theorem dJx4a65c_grow_92f84_27 : decode cJx4a65c_grow_92f84 27 = .ok (.invokestatic 73, 3) := by decide +kernel
theorem dJx4a65c_grow_92f84_30 : decode cJx4a65c_grow_92f84 30 = .ok (.istore_n 3, 1) := by decide +kernel
theorem dJx4a65c_grow_92f84_31 : decode cJx4a65c_grow_92f84 31 = .ok (.aload_n 0, 1) := by decide +kernel
theorem dJx4a65c_grow_92f84_32 : decode cJx4a65c_grow_92f84 32 = .ok (.aload_n 0, 1) := by decide +kernel
theorem dJx4a65c_grow_92f84_33 : decode cJx4a65c_grow_92f84 33 = .ok (.getfield 9, 3) := by decide +kernel
theorem dJx4a65c_grow_92f84_36 : decode cJx4a65c_grow_92f84 36 = .ok (.iload_n 3, 1) := by decide +kernel
theorem dJx4a65c_grow_92f84_37 : decode cJx4a65c_grow_92f84 37 = .ok (.invokestatic 66, 3) := by decide +kernel
theorem dJx4a65c_grow_92f84_40 : decode cJx4a65c_grow_92f84 40 = .ok (.dup_x1, 1) := by decide +kernel
theorem dJx4a65c_grow_92f84_41 : decode cJx4a65c_grow_92f84 41 = .ok (.putfield 9, 3) := by decide +kernel
theorem dJx4a65c_grow_92f84_44 : decode cJx4a65c_grow_92f84 44 = .ok (.areturn, 1) := by decide +kernel
theorem dJx4a65c_grow_92f84_45 : decode cJx4a65c_grow_92f84 45 = .ok (.aload_n 0, 1) := by decide +kernel
theorem dJx4a65c_grow_92f84_46 : decode cJx4a65c_grow_92f84 46 = .ok (.bipush 10, 2) := by decide +kernel
theorem dJx4a65c_grow_92f84_48 : decode cJx4a65c_grow_92f84 48 = .ok (.iload_n 1, 1) := by decide +kernel
theorem dJx4a65c_grow_92f84_49 : decode cJx4a65c_grow_92f84 49 = .ok (.invokestatic 79, 3) := by decide +kernel
theorem dJx4a65c_grow_92f84_52 : decode cJx4a65c_grow_92f84 52 = .ok (.anewarray 7, 3) := by decide +kernel
theorem dJx4a65c_grow_92f84_55 : decode cJx4a65c_grow_92f84 55 = .ok (.dup_x1, 1) := by decide +kernel
theorem dJx4a65c_grow_92f84_56 : decode cJx4a65c_grow_92f84 56 = .ok (.putfield 9, 3) := by decide +kernel
theorem dJx4a65c_grow_92f84_59 : decode cJx4a65c_grow_92f84 59 = .ok (.areturn, 1) := by decide +kernel
theorem dJx4a65c_grow_d5877_0 : decode cJx4a65c_grow_d5877 0 = .ok (.aload_n 0, 1) := by decide +kernel
theorem dJx4a65c_grow_d5877_1 : decode cJx4a65c_grow_d5877 1 = .ok (.aload_n 0, 1) := by decide +kernel
theorem dJx4a65c_grow_d5877_2 : decode cJx4a65c_grow_d5877 2 = .ok (.getfield 48, 3) := by decide +kernel
theorem dJx4a65c_grow_d5877_5 : decode cJx4a65c_grow_d5877 5 = .ok (.iconst 1, 1) := by decide +kernel
theorem dJx4a65c_grow_d5877_6 : decode cJx4a65c_grow_d5877 6 = .ok (.iadd, 1) := by decide +kernel
theorem dJx4a65c_grow_d5877_7 : decode cJx4a65c_grow_d5877 7 = .ok (.invokevirtual 69, 3) := by decide +kernel
theorem dJx4a65c_grow_d5877_10 : decode cJx4a65c_grow_d5877 10 = .ok (.areturn, 1) := by decide +kernel
theorem dJx4a65c_size_8abf5_0 : decode cJx4a65c_size_8abf5 0 = .ok (.aload_n 0, 1) := by decide +kernel
theorem dJx4a65c_size_8abf5_1 : decode cJx4a65c_size_8abf5 1 = .ok (.getfield 48, 3) := by decide +kernel
theorem dJx4a65c_size_8abf5_4 : decode cJx4a65c_size_8abf5 4 = .ok (.ireturn, 1) := by decide +kernel
theorem dJx4a65c_elementData_915e3_0 : decode cJx4a65c_elementData_915e3 0 = .ok (.aload_n 0, 1) := by decide +kernel
theorem dJx4a65c_elementData_915e3_1 : decode cJx4a65c_elementData_915e3 1 = .ok (.getfield 9, 3) := by decide +kernel
theorem dJx4a65c_elementData_915e3_4 : decode cJx4a65c_elementData_915e3 4 = .ok (.iload_n 1, 1) := by decide +kernel
theorem dJx4a65c_elementData_915e3_5 : decode cJx4a65c_elementData_915e3 5 = .ok (.aaload, 1) := by decide +kernel
theorem dJx4a65c_elementData_915e3_6 : decode cJx4a65c_elementData_915e3 6 = .ok (.areturn, 1) := by decide +kernel
theorem dJx4a65c_get_915e3_0 : decode cJx4a65c_get_915e3 0 = .ok (.iload_n 1, 1) := by decide +kernel
theorem dJx4a65c_get_915e3_1 : decode cJx4a65c_get_915e3 1 = .ok (.aload_n 0, 1) := by decide +kernel
theorem dJx4a65c_get_915e3_2 : decode cJx4a65c_get_915e3 2 = .ok (.getfield 48, 3) := by decide +kernel
theorem dJx4a65c_get_915e3_5 : decode cJx4a65c_get_915e3 5 = .ok (.invokestatic 118, 3) := by decide +kernel
theorem dJx4a65c_get_915e3_8 : decode cJx4a65c_get_915e3 8 = .ok (.pop, 1) := by decide +kernel
theorem dJx4a65c_get_915e3_9 : decode cJx4a65c_get_915e3 9 = .ok (.aload_n 0, 1) := by decide +kernel
theorem dJx4a65c_get_915e3_10 : decode cJx4a65c_get_915e3 10 = .ok (.iload_n 1, 1) := by decide +kernel
theorem dJx4a65c_get_915e3_11 : decode cJx4a65c_get_915e3 11 = .ok (.invokevirtual 123, 3) := by decide +kernel
theorem dJx4a65c_get_915e3_14 : decode cJx4a65c_get_915e3 14 = .ok (.areturn, 1) := by decide +kernel
theorem dJx4a65c_add_72be8_0 : decode cJx4a65c_add_72be8 0 = .ok (.iload_n 3, 1) := by decide +kernel
theorem dJx4a65c_add_72be8_1 : decode cJx4a65c_add_72be8 1 = .ok (.aload_n 2, 1) := by decide +kernel
theorem dJx4a65c_add_72be8_2 : decode cJx4a65c_add_72be8 2 = .ok (.arraylength, 1) := by decide +kernel
theorem dJx4a65c_add_72be8_3 : decode cJx4a65c_add_72be8 3 = .ok (.if_icmp .ne 8, 3) := by decide +kernel
theorem dJx4a65c_add_72be8_6 : decode cJx4a65c_add_72be8 6 = .ok (.aload_n 0, 1) := by decide +kernel
theorem dJx4a65c_add_72be8_7 : decode cJx4a65c_add_72be8 7 = .ok (.invokevirtual 129, 3) := by decide +kernel
theorem dJx4a65c_add_72be8_10 : decode cJx4a65c_add_72be8 10 = .ok (.astore_n 2, 1) := by decide +kernel
theorem dJx4a65c_add_72be8_11 : decode cJx4a65c_add_72be8 11 = .ok (.aload_n 2, 1) := by decide +kernel
theorem dJx4a65c_add_72be8_12 : decode cJx4a65c_add_72be8 12 = .ok (.iload_n 3, 1) := by decide +kernel
theorem dJx4a65c_add_72be8_13 : decode cJx4a65c_add_72be8 13 = .ok (.aload_n 1, 1) := by decide +kernel
theorem dJx4a65c_add_72be8_14 : decode cJx4a65c_add_72be8 14 = .ok (.aastore, 1) := by decide +kernel
theorem dJx4a65c_add_72be8_15 : decode cJx4a65c_add_72be8 15 = .ok (.aload_n 0, 1) := by decide +kernel
theorem dJx4a65c_add_72be8_16 : decode cJx4a65c_add_72be8 16 = .ok (.iload_n 3, 1) := by decide +kernel
theorem dJx4a65c_add_72be8_17 : decode cJx4a65c_add_72be8 17 = .ok (.iconst 1, 1) := by decide +kernel
theorem dJx4a65c_add_72be8_18 : decode cJx4a65c_add_72be8 18 = .ok (.iadd, 1) := by decide +kernel
theorem dJx4a65c_add_72be8_19 : decode cJx4a65c_add_72be8 19 = .ok (.putfield 48, 3) := by decide +kernel
theorem dJx4a65c_add_72be8_22 : decode cJx4a65c_add_72be8 22 = .ok (.return_, 1) := by decide +kernel
theorem dJx4a65c_add_9ea2d_0 : decode cJx4a65c_add_9ea2d 0 = .ok (.aload_n 0, 1) := by decide +kernel
theorem dJx4a65c_add_9ea2d_1 : decode cJx4a65c_add_9ea2d 1 = .ok (.dup, 1) := by decide +kernel
theorem dJx4a65c_add_9ea2d_2 : decode cJx4a65c_add_9ea2d 2 = .ok (.getfield 63, 3) := by decide +kernel
theorem dJx4a65c_add_9ea2d_5 : decode cJx4a65c_add_9ea2d 5 = .ok (.iconst 1, 1) := by decide +kernel
theorem dJx4a65c_add_9ea2d_6 : decode cJx4a65c_add_9ea2d 6 = .ok (.iadd, 1) := by decide +kernel
theorem dJx4a65c_add_9ea2d_7 : decode cJx4a65c_add_9ea2d 7 = .ok (.putfield 63, 3) := by decide +kernel
theorem dJx4a65c_add_9ea2d_10 : decode cJx4a65c_add_9ea2d 10 = .ok (.aload_n 0, 1) := by decide +kernel
theorem dJx4a65c_add_9ea2d_11 : decode cJx4a65c_add_9ea2d 11 = .ok (.aload_n 1, 1) := by decide +kernel
theorem dJx4a65c_add_9ea2d_12 : decode cJx4a65c_add_9ea2d 12 = .ok (.aload_n 0, 1) := by decide +kernel
theorem dJx4a65c_add_9ea2d_13 : decode cJx4a65c_add_9ea2d 13 = .ok (.getfield 9, 3) := by decide +kernel
theorem dJx4a65c_add_9ea2d_16 : decode cJx4a65c_add_9ea2d 16 = .ok (.aload_n 0, 1) := by decide +kernel
theorem dJx4a65c_add_9ea2d_17 : decode cJx4a65c_add_9ea2d 17 = .ok (.getfield 48, 3) := by decide +kernel
theorem dJx4a65c_add_9ea2d_20 : decode cJx4a65c_add_9ea2d 20 = .ok (.invokevirtual 131, 3) := by decide +kernel
theorem dJx4a65c_add_9ea2d_23 : decode cJx4a65c_add_9ea2d 23 = .ok (.iconst 1, 1) := by decide +kernel
theorem dJx4a65c_add_9ea2d_24 : decode cJx4a65c_add_9ea2d 24 = .ok (.ireturn, 1) := by decide +kernel
theorem dJx4a65c_remove_915e3_0 : decode cJx4a65c_remove_915e3 0 = .ok (.iload_n 1, 1) := by decide +kernel
theorem dJx4a65c_remove_915e3_1 : decode cJx4a65c_remove_915e3 1 = .ok (.aload_n 0, 1) := by decide +kernel
theorem dJx4a65c_remove_915e3_2 : decode cJx4a65c_remove_915e3 2 = .ok (.getfield 48, 3) := by decide +kernel
theorem dJx4a65c_remove_915e3_5 : decode cJx4a65c_remove_915e3 5 = .ok (.invokestatic 118, 3) := by decide +kernel
theorem dJx4a65c_remove_915e3_8 : decode cJx4a65c_remove_915e3 8 = .ok (.pop, 1) := by decide +kernel
theorem dJx4a65c_remove_915e3_9 : decode cJx4a65c_remove_915e3 9 = .ok (.aload_n 0, 1) := by decide +kernel
theorem dJx4a65c_remove_915e3_10 : decode cJx4a65c_remove_915e3 10 = .ok (.getfield 9, 3) := by decide +kernel
theorem dJx4a65c_remove_915e3_13 : decode cJx4a65c_remove_915e3 13 = .ok (.astore_n 2, 1) := by decide +kernel
theorem dJx4a65c_remove_915e3_14 : decode cJx4a65c_remove_915e3 14 = .ok (.aload_n 2, 1) := by decide +kernel
theorem dJx4a65c_remove_915e3_15 : decode cJx4a65c_remove_915e3 15 = .ok (.iload_n 1, 1) := by decide +kernel
theorem dJx4a65c_remove_915e3_16 : decode cJx4a65c_remove_915e3 16 = .ok (.aaload, 1) := by decide +kernel
theorem dJx4a65c_remove_915e3_17 : decode cJx4a65c_remove_915e3 17 = .ok (.astore_n 3, 1) := by decide +kernel
theorem dJx4a65c_remove_915e3_18 : decode cJx4a65c_remove_915e3 18 = .ok (.aload_n 0, 1) := by decide +kernel
theorem dJx4a65c_remove_915e3_19 : decode cJx4a65c_remove_915e3 19 = .ok (.aload_n 2, 1) := by decide +kernel
theorem dJx4a65c_remove_915e3_20 : decode cJx4a65c_remove_915e3 20 = .ok (.iload_n 1, 1) := by decide +kernel
theorem dJx4a65c_remove_915e3_21 : decode cJx4a65c_remove_915e3 21 = .ok (.invokevirtual 144, 3) := by decide +kernel
theorem dJx4a65c_remove_915e3_24 : decode cJx4a65c_remove_915e3 24 = .ok (.aload_n 3, 1) := by decide +kernel
theorem dJx4a65c_remove_915e3_25 : decode cJx4a65c_remove_915e3 25 = .ok (.areturn, 1) := by decide +kernel
theorem dJx4a65c_fastRemove_b59b0_0 : decode cJx4a65c_fastRemove_b59b0 0 = .ok (.aload_n 0, 1) := by decide +kernel
theorem dJx4a65c_fastRemove_b59b0_1 : decode cJx4a65c_fastRemove_b59b0 1 = .ok (.dup, 1) := by decide +kernel
theorem dJx4a65c_fastRemove_b59b0_2 : decode cJx4a65c_fastRemove_b59b0 2 = .ok (.getfield 63, 3) := by decide +kernel
theorem dJx4a65c_fastRemove_b59b0_5 : decode cJx4a65c_fastRemove_b59b0 5 = .ok (.iconst 1, 1) := by decide +kernel
theorem dJx4a65c_fastRemove_b59b0_6 : decode cJx4a65c_fastRemove_b59b0 6 = .ok (.iadd, 1) := by decide +kernel
theorem dJx4a65c_fastRemove_b59b0_7 : decode cJx4a65c_fastRemove_b59b0 7 = .ok (.putfield 63, 3) := by decide +kernel
theorem dJx4a65c_fastRemove_b59b0_10 : decode cJx4a65c_fastRemove_b59b0 10 = .ok (.aload_n 0, 1) := by decide +kernel
theorem dJx4a65c_fastRemove_b59b0_11 : decode cJx4a65c_fastRemove_b59b0 11 = .ok (.getfield 48, 3) := by decide +kernel
theorem dJx4a65c_fastRemove_b59b0_14 : decode cJx4a65c_fastRemove_b59b0 14 = .ok (.iconst 1, 1) := by decide +kernel
theorem dJx4a65c_fastRemove_b59b0_15 : decode cJx4a65c_fastRemove_b59b0 15 = .ok (.isub, 1) := by decide +kernel
theorem dJx4a65c_fastRemove_b59b0_16 : decode cJx4a65c_fastRemove_b59b0 16 = .ok (.dup, 1) := by decide +kernel
theorem dJx4a65c_fastRemove_b59b0_17 : decode cJx4a65c_fastRemove_b59b0 17 = .ok (.istore_n 3, 1) := by decide +kernel
theorem dJx4a65c_fastRemove_b59b0_18 : decode cJx4a65c_fastRemove_b59b0 18 = .ok (.iload_n 2, 1) := by decide +kernel
theorem dJx4a65c_fastRemove_b59b0_19 : decode cJx4a65c_fastRemove_b59b0 19 = .ok (.if_icmp .le 15, 3) := by decide +kernel
theorem dJx4a65c_fastRemove_b59b0_22 : decode cJx4a65c_fastRemove_b59b0 22 = .ok (.aload_n 1, 1) := by decide +kernel
theorem dJx4a65c_fastRemove_b59b0_23 : decode cJx4a65c_fastRemove_b59b0 23 = .ok (.iload_n 2, 1) := by decide +kernel
theorem dJx4a65c_fastRemove_b59b0_24 : decode cJx4a65c_fastRemove_b59b0 24 = .ok (.iconst 1, 1) := by decide +kernel
theorem dJx4a65c_fastRemove_b59b0_25 : decode cJx4a65c_fastRemove_b59b0 25 = .ok (.iadd, 1) := by decide +kernel
theorem dJx4a65c_fastRemove_b59b0_26 : decode cJx4a65c_fastRemove_b59b0 26 = .ok (.aload_n 1, 1) := by decide +kernel
theorem dJx4a65c_fastRemove_b59b0_27 : decode cJx4a65c_fastRemove_b59b0 27 = .ok (.iload_n 2, 1) := by decide +kernel
theorem dJx4a65c_fastRemove_b59b0_28 : decode cJx4a65c_fastRemove_b59b0 28 = .ok (.iload_n 3, 1) := by decide +kernel
theorem dJx4a65c_fastRemove_b59b0_29 : decode cJx4a65c_fastRemove_b59b0 29 = .ok (.iload_n 2, 1) := by decide +kernel
theorem dJx4a65c_fastRemove_b59b0_30 : decode cJx4a65c_fastRemove_b59b0 30 = .ok (.isub, 1) := by decide +kernel
theorem dJx4a65c_fastRemove_b59b0_31 : decode cJx4a65c_fastRemove_b59b0 31 = .ok (.invokestatic 112, 3) := by decide +kernel
theorem dJx4a65c_fastRemove_b59b0_34 : decode cJx4a65c_fastRemove_b59b0 34 = .ok (.aload_n 1, 1) := by decide +kernel
theorem dJx4a65c_fastRemove_b59b0_35 : decode cJx4a65c_fastRemove_b59b0 35 = .ok (.aload_n 0, 1) := by decide +kernel
theorem dJx4a65c_fastRemove_b59b0_36 : decode cJx4a65c_fastRemove_b59b0 36 = .ok (.iload_n 3, 1) := by decide +kernel
theorem dJx4a65c_fastRemove_b59b0_37 : decode cJx4a65c_fastRemove_b59b0 37 = .ok (.dup_x1, 1) := by decide +kernel
theorem dJx4a65c_fastRemove_b59b0_38 : decode cJx4a65c_fastRemove_b59b0 38 = .ok (.putfield 48, 3) := by decide +kernel
theorem dJx4a65c_fastRemove_b59b0_41 : decode cJx4a65c_fastRemove_b59b0 41 = .ok (.aconst_null, 1) := by decide +kernel
theorem dJx4a65c_fastRemove_b59b0_42 : decode cJx4a65c_fastRemove_b59b0 42 = .ok (.aastore, 1) := by decide +kernel
theorem dJx4a65c_fastRemove_b59b0_43 : decode cJx4a65c_fastRemove_b59b0 43 = .ok (.return_, 1) := by decide +kernel
theorem dJ7_fill_53178_0 : decode cJ7_fill_53178 0 = .ok (.iconst 0, 1) := by decide +kernel
theorem dJ7_fill_53178_1 : decode cJ7_fill_53178 1 = .ok (.istore_n 2, 1) := by decide +kernel
theorem dJ7_fill_53178_2 : decode cJ7_fill_53178 2 = .ok (.aload_n 0, 1) := by decide +kernel
theorem dJ7_fill_53178_3 : decode cJ7_fill_53178 3 = .ok (.arraylength, 1) := by decide +kernel
theorem dJ7_fill_53178_4 : decode cJ7_fill_53178 4 = .ok (.istore_n 3, 1) := by decide +kernel
theorem dJ7_fill_53178_5 : decode cJ7_fill_53178 5 = .ok (.iload_n 2, 1) := by decide +kernel
theorem dJ7_fill_53178_6 : decode cJ7_fill_53178 6 = .ok (.iload_n 3, 1) := by decide +kernel
theorem dJ7_fill_53178_7 : decode cJ7_fill_53178 7 = .ok (.if_icmp .ge 13, 3) := by decide +kernel
theorem dJ7_fill_53178_10 : decode cJ7_fill_53178 10 = .ok (.aload_n 0, 1) := by decide +kernel
theorem dJ7_fill_53178_11 : decode cJ7_fill_53178 11 = .ok (.iload_n 2, 1) := by decide +kernel
theorem dJ7_fill_53178_12 : decode cJ7_fill_53178 12 = .ok (.iload_n 1, 1) := by decide +kernel
theorem dJ7_fill_53178_13 : decode cJ7_fill_53178 13 = .ok (.iastore, 1) := by decide +kernel
theorem dJ7_fill_53178_14 : decode cJ7_fill_53178 14 = .ok (.iinc 2 1, 3) := by decide +kernel
theorem dJ7_fill_53178_17 : decode cJ7_fill_53178 17 = .ok (.goto (-12), 3) := by decide +kernel
theorem dJ7_fill_53178_20 : decode cJ7_fill_53178 20 = .ok (.return_, 1) := by decide +kernel
theorem dJ7_copyOf_1904c_0 : decode cJ7_copyOf_1904c 0 = .ok (.aload_n 0, 1) := by decide +kernel
theorem dJ7_copyOf_1904c_1 : decode cJ7_copyOf_1904c 1 = .ok (.iload_n 1, 1) := by decide +kernel
theorem dJ7_copyOf_1904c_2 : decode cJ7_copyOf_1904c 2 = .ok (.aload_n 0, 1) := by decide +kernel
theorem dJ7_copyOf_1904c_3 : decode cJ7_copyOf_1904c 3 = .ok (.invokevirtual 86, 3) := by decide +kernel
theorem dJ7_copyOf_1904c_6 : decode cJ7_copyOf_1904c 6 = .ok (.invokestatic 300, 3) := by decide +kernel
theorem dJ7_copyOf_1904c_9 : decode cJ7_copyOf_1904c 9 = .ok (.areturn, 1) := by decide +kernel
theorem dJ7_copyOf_6403c_0 : decode cJ7_copyOf_6403c 0 = .ok (.aload_n 2, 1) := by decide +kernel
theorem dJ7_copyOf_6403c_1 : decode cJ7_copyOf_6403c 1 = .ok (.ldc 110, 2) := by decide +kernel
theorem dJ7_copyOf_6403c_3 : decode cJ7_copyOf_6403c 3 = .ok (.if_acmp .ne 10, 3) := by decide +kernel
theorem dJ7_copyOf_6403c_6 : decode cJ7_copyOf_6403c 6 = .ok (.iload_n 1, 1) := by decide +kernel
theorem dJ7_copyOf_6403c_7 : decode cJ7_copyOf_6403c 7 = .ok (.anewarray 2, 3) := by decide +kernel
theorem dJ7_copyOf_6403c_10 : decode cJ7_copyOf_6403c 10 = .ok (.goto 14, 3) := by decide +kernel
theorem dJ7_copyOf_6403c_13 : decode cJ7_copyOf_6403c 13 = .ok (.aload_n 2, 1) := by decide +kernel
theorem dJ7_copyOf_6403c_14 : decode cJ7_copyOf_6403c 14 = .ok (.invokevirtual 90, 3) := by decide +kernel
theorem dJ7_copyOf_6403c_17 : decode cJ7_copyOf_6403c 17 = .ok (.iload_n 1, 1) := by decide +kernel
theorem dJ7_copyOf_6403c_18 : decode cJ7_copyOf_6403c 18 = .ok (.invokestatic 95, 3) := by decide +kernel
theorem dJ7_copyOf_6403c_21 : decode cJ7_copyOf_6403c 21 = .ok (.checkcast 110, 3) := by decide +kernel
theorem dJ7_copyOf_6403c_24 : decode cJ7_copyOf_6403c 24 = .ok (.astore_n 3, 1) := by decide +kernel
theorem dJ7_copyOf_6403c_25 : decode cJ7_copyOf_6403c 25 = .ok (.aload_n 0, 1) := by decide +kernel
theorem dJ7_copyOf_6403c_26 : decode cJ7_copyOf_6403c 26 = .ok (.iconst 0, 1) := by decide +kernel
theorem dJ7_copyOf_6403c_27 : decode cJ7_copyOf_6403c 27 = .ok (.aload_n 3, 1) := by decide +kernel
theorem dJ7_copyOf_6403c_28 : decode cJ7_copyOf_6403c 28 = .ok (.iconst 0, 1) := by decide +kernel
theorem dJ7_copyOf_6403c_29 : decode cJ7_copyOf_6403c 29 = .ok (.aload_n 0, 1) := by decide +kernel
theorem dJ7_copyOf_6403c_30 : decode cJ7_copyOf_6403c 30 = .ok (.arraylength, 1) := by decide +kernel
theorem dJ7_copyOf_6403c_31 : decode cJ7_copyOf_6403c 31 = .ok (.iload_n 1, 1) := by decide +kernel
theorem dJ7_copyOf_6403c_32 : decode cJ7_copyOf_6403c 32 = .ok (.invokestatic 304, 3) := by decide +kernel
end
section
theorem dJ7_copyOf_6403c_35 : decode cJ7_copyOf_6403c 35 = .ok (.invokestatic 150, 3) := by decide +kernel
theorem dJ7_copyOf_6403c_38 : decode cJ7_copyOf_6403c 38 = .ok (.aload_n 3, 1) := by decide +kernel
theorem dJ7_copyOf_6403c_39 : decode cJ7_copyOf_6403c 39 = .ok (.areturn, 1) := by decide +kernel
theorem dJ15_checkIndex_7cf53_0 : decode cJ15_checkIndex_7cf53 0 = .ok (.iload_n 0, 1) := by decide +kernel
theorem dJ15_checkIndex_7cf53_1 : decode cJ15_checkIndex_7cf53 1 = .ok (.iload_n 1, 1) := by decide +kernel
theorem dJ15_checkIndex_7cf53_2 : decode cJ15_checkIndex_7cf53 2 = .ok (.aconst_null, 1) := by decide +kernel
theorem dJ15_checkIndex_7cf53_3 : decode cJ15_checkIndex_7cf53 3 = .ok (.invokestatic 105, 3) := by decide +kernel
theorem dJ15_checkIndex_7cf53_6 : decode cJ15_checkIndex_7cf53 6 = .ok (.ireturn, 1) := by decide +kernel
theorem dJ8_newLength_cabcc_0 : decode cJ8_newLength_cabcc 0 = .ok (.iload_n 0, 1) := by decide +kernel
theorem dJ8_newLength_cabcc_1 : decode cJ8_newLength_cabcc 1 = .ok (.iload_n 1, 1) := by decide +kernel
theorem dJ8_newLength_cabcc_2 : decode cJ8_newLength_cabcc 2 = .ok (.iload_n 2, 1) := by decide +kernel
theorem dJ8_newLength_cabcc_3 : decode cJ8_newLength_cabcc 3 = .ok (.invokestatic 194, 3) := by decide +kernel
theorem dJ8_newLength_cabcc_6 : decode cJ8_newLength_cabcc 6 = .ok (.iadd, 1) := by decide +kernel
theorem dJ8_newLength_cabcc_7 : decode cJ8_newLength_cabcc 7 = .ok (.istore_n 3, 1) := by decide +kernel
theorem dJ8_newLength_cabcc_8 : decode cJ8_newLength_cabcc 8 = .ok (.iconst 0, 1) := by decide +kernel
theorem dJ8_newLength_cabcc_9 : decode cJ8_newLength_cabcc 9 = .ok (.iload_n 3, 1) := by decide +kernel
theorem dJ8_newLength_cabcc_10 : decode cJ8_newLength_cabcc 10 = .ok (.if_icmp .ge 11, 3) := by decide +kernel
theorem dJ8_newLength_cabcc_13 : decode cJ8_newLength_cabcc 13 = .ok (.iload_n 3, 1) := by decide +kernel
theorem dJ8_newLength_cabcc_14 : decode cJ8_newLength_cabcc 14 = .ok (.ldc 200, 2) := by decide +kernel
theorem dJ8_newLength_cabcc_16 : decode cJ8_newLength_cabcc 16 = .ok (.if_icmp .gt 5, 3) := by decide +kernel
theorem dJ8_newLength_cabcc_19 : decode cJ8_newLength_cabcc 19 = .ok (.iload_n 3, 1) := by decide +kernel
theorem dJ8_newLength_cabcc_20 : decode cJ8_newLength_cabcc 20 = .ok (.ireturn, 1) := by decide +kernel
theorem dJ8_newLength_cabcc_21 : decode cJ8_newLength_cabcc 21 = .ok (.iload_n 0, 1) := by decide +kernel
theorem dJ8_newLength_cabcc_22 : decode cJ8_newLength_cabcc 22 = .ok (.iload_n 1, 1) := by decide +kernel
theorem dJ8_newLength_cabcc_23 : decode cJ8_newLength_cabcc 23 = .ok (.invokestatic 201, 3) := by decide +kernel
theorem dJ8_newLength_cabcc_26 : decode cJ8_newLength_cabcc 26 = .ok (.ireturn, 1) := by decide +kernel
theorem dJ8_hugeLength_7cf53_0 : decode cJ8_hugeLength_7cf53 0 = .ok (.iload_n 0, 1) := by decide +kernel
theorem dJ8_hugeLength_7cf53_1 : decode cJ8_hugeLength_7cf53 1 = .ok (.iload_n 1, 1) := by decide +kernel
theorem dJ8_hugeLength_7cf53_2 : decode cJ8_hugeLength_7cf53 2 = .ok (.iadd, 1) := by decide +kernel
theorem dJ8_hugeLength_7cf53_3 : decode cJ8_hugeLength_7cf53 3 = .ok (.istore_n 2, 1) := by decide +kernel
theorem dJ8_hugeLength_7cf53_4 : decode cJ8_hugeLength_7cf53 4 = .ok (.iload_n 2, 1) := by decide +kernel
theorem dJ8_hugeLength_7cf53_5 : decode cJ8_hugeLength_7cf53 5 = .ok (.ifCond .ge 44, 3) := by decide +kernel
theorem dJ8_hugeLength_7cf53_8 : decode cJ8_hugeLength_7cf53 8 = .ok (.new 204, 3) := by decide +kernel
theorem dJ8_hugeLength_7cf53_11 : decode cJ8_hugeLength_7cf53 11 = .ok (.dup, 1) := by decide +kernel
theorem dJ8_hugeLength_7cf53_12 : decode cJ8_hugeLength_7cf53 12 = .ok (.new 89, 3) := by decide +kernel
theorem dJ8_hugeLength_7cf53_15 : decode cJ8_hugeLength_7cf53 15 = .ok (.dup, 1) := by decide +kernel
theorem dJ8_hugeLength_7cf53_16 : decode cJ8_hugeLength_7cf53 16 = .ok (.invokespecial 91, 3) := by decide +kernel
theorem dJ8_hugeLength_7cf53_19 : decode cJ8_hugeLength_7cf53 19 = .ok (.ldc 206, 2) := by decide +kernel
theorem dJ8_hugeLength_7cf53_21 : decode cJ8_hugeLength_7cf53 21 = .ok (.invokevirtual 94, 3) := by decide +kernel
theorem dJ8_hugeLength_7cf53_24 : decode cJ8_hugeLength_7cf53 24 = .ok (.iload_n 0, 1) := by decide +kernel
theorem dJ8_hugeLength_7cf53_25 : decode cJ8_hugeLength_7cf53 25 = .ok (.invokevirtual 98, 3) := by decide +kernel
theorem dJ8_hugeLength_7cf53_28 : decode cJ8_hugeLength_7cf53 28 = .ok (.ldc 208, 2) := by decide +kernel
theorem dJ8_hugeLength_7cf53_30 : decode cJ8_hugeLength_7cf53 30 = .ok (.invokevirtual 94, 3) := by decide +kernel
theorem dJ8_hugeLength_7cf53_33 : decode cJ8_hugeLength_7cf53 33 = .ok (.iload_n 1, 1) := by decide +kernel
theorem dJ8_hugeLength_7cf53_34 : decode cJ8_hugeLength_7cf53 34 = .ok (.invokevirtual 98, 3) := by decide +kernel
theorem dJ8_hugeLength_7cf53_37 : decode cJ8_hugeLength_7cf53 37 = .ok (.ldc 210, 2) := by decide +kernel
theorem dJ8_hugeLength_7cf53_39 : decode cJ8_hugeLength_7cf53 39 = .ok (.invokevirtual 94, 3) := by decide +kernel
theorem dJ8_hugeLength_7cf53_42 : decode cJ8_hugeLength_7cf53 42 = .ok (.invokevirtual 101, 3) := by decide +kernel
theorem dJ8_hugeLength_7cf53_45 : decode cJ8_hugeLength_7cf53 45 = .ok (.invokespecial 212, 3) := by decide +kernel
theorem dJ8_hugeLength_7cf53_48 : decode cJ8_hugeLength_7cf53 48 = .ok (.athrow, 1) := by decide +kernel
theorem dJ8_hugeLength_7cf53_49 : decode cJ8_hugeLength_7cf53 49 = .ok (.iload_n 2, 1) := by decide +kernel
theorem dJ8_hugeLength_7cf53_50 : decode cJ8_hugeLength_7cf53 50 = .ok (.ldc 200, 2) := by decide +kernel
theorem dJ8_hugeLength_7cf53_52 : decode cJ8_hugeLength_7cf53 52 = .ok (.if_icmp .gt 6, 3) := by decide +kernel
theorem dJ8_hugeLength_7cf53_55 : decode cJ8_hugeLength_7cf53 55 = .ok (.ldc 200, 2) := by decide +kernel
theorem dJ8_hugeLength_7cf53_57 : decode cJ8_hugeLength_7cf53 57 = .ok (.ireturn, 1) := by decide +kernel
theorem dJ8_hugeLength_7cf53_58 : decode cJ8_hugeLength_7cf53 58 = .ok (.iload_n 2, 1) := by decide +kernel
theorem dJ8_hugeLength_7cf53_59 : decode cJ8_hugeLength_7cf53 59 = .ok (.ireturn, 1) := by decide +kernel
theorem dJ3_checkIndex_8e157_0 : decode cJ3_checkIndex_8e157 0 = .ok (.iload_n 0, 1) := by decide +kernel
theorem dJ3_checkIndex_8e157_1 : decode cJ3_checkIndex_8e157 1 = .ok (.ifCond .lt 8, 3) := by decide +kernel
theorem dJ3_checkIndex_8e157_4 : decode cJ3_checkIndex_8e157 4 = .ok (.iload_n 0, 1) := by decide +kernel
theorem dJ3_checkIndex_8e157_5 : decode cJ3_checkIndex_8e157 5 = .ok (.iload_n 1, 1) := by decide +kernel
theorem dJ3_checkIndex_8e157_6 : decode cJ3_checkIndex_8e157 6 = .ok (.if_icmp .lt 10, 3) := by decide +kernel
theorem dJ3_checkIndex_8e157_9 : decode cJ3_checkIndex_8e157 9 = .ok (.aload_n 2, 1) := by decide +kernel
theorem dJ3_checkIndex_8e157_10 : decode cJ3_checkIndex_8e157 10 = .ok (.iload_n 0, 1) := by decide +kernel
theorem dJ3_checkIndex_8e157_11 : decode cJ3_checkIndex_8e157 11 = .ok (.iload_n 1, 1) := by decide +kernel
theorem dJ3_checkIndex_8e157_12 : decode cJ3_checkIndex_8e157 12 = .ok (.invokestatic 95, 3) := by decide +kernel
theorem dJ3_checkIndex_8e157_15 : decode cJ3_checkIndex_8e157 15 = .ok (.athrow, 1) := by decide +kernel
theorem dJ3_checkIndex_8e157_16 : decode cJ3_checkIndex_8e157 16 = .ok (.iload_n 0, 1) := by decide +kernel
theorem dJ3_checkIndex_8e157_17 : decode cJ3_checkIndex_8e157 17 = .ok (.ireturn, 1) := by decide +kernel
theorem dL_hang_0 : decode cL_hang 0 = .ok (.aload 7, 2) := by decide +kernel
theorem dL_hang_2 : decode cL_hang 2 = .ok (.iconst 0, 1) := by decide +kernel
theorem dL_hang_3 : decode cL_hang 3 = .ok (.aload_n 0, 1) := by decide +kernel
theorem dL_hang_4 : decode cL_hang 4 = .ok (.iload_n 1, 1) := by decide +kernel
theorem dL_hang_5 : decode cL_hang 5 = .ok (.iload_n 2, 1) := by decide +kernel
theorem dL_hang_6 : decode cL_hang 6 = .ok (.iload_n 3, 1) := by decide +kernel
theorem dL_hang_7 : decode cL_hang 7 = .ok (.iload 4, 2) := by decide +kernel
theorem dL_hang_9 : decode cL_hang 9 = .ok (.iload 5, 2) := by decide +kernel
theorem dL_hang_11 : decode cL_hang 11 = .ok (.iload 6, 2) := by decide +kernel
theorem dL_hang_13 : decode cL_hang 13 = .ok (.invokevirtual 7, 3) := by decide +kernel
theorem dL_hang_16 : decode cL_hang 16 = .ok (.i2l, 1) := by decide +kernel
theorem dL_hang_17 : decode cL_hang 17 = .ok (.lastore, 1) := by decide +kernel
theorem dL_hang_18 : decode cL_hang 18 = .ok (.goto 15, 3) := by decide +kernel
theorem dL_hang_21 : decode cL_hang 21 = .ok (.astore 8, 2) := by decide +kernel
theorem dL_hang_23 : decode cL_hang 23 = .ok (.iconst 1, 1) := by decide +kernel
theorem dL_hang_24 : decode cL_hang 24 = .ok (.ireturn, 1) := by decide +kernel
theorem dL_hang_25 : decode cL_hang 25 = .ok (.astore 8, 2) := by decide +kernel
theorem dL_hang_27 : decode cL_hang 27 = .ok (.iconst 2, 1) := by decide +kernel
theorem dL_hang_28 : decode cL_hang 28 = .ok (.ireturn, 1) := by decide +kernel
theorem dL_hang_29 : decode cL_hang 29 = .ok (.astore 8, 2) := by decide +kernel
theorem dL_hang_31 : decode cL_hang 31 = .ok (.iconst 3, 1) := by decide +kernel
theorem dL_hang_32 : decode cL_hang 32 = .ok (.ireturn, 1) := by decide +kernel
theorem dL_hang_33 : decode cL_hang 33 = .ok (.iconst 0, 1) := by decide +kernel
theorem dL_hang_34 : decode cL_hang 34 = .ok (.ireturn, 1) := by decide +kernel
theorem dL_roll_0 : decode cL_roll 0 = .ok (.aload_n 2, 1) := by decide +kernel
theorem dL_roll_1 : decode cL_roll 1 = .ok (.iconst 0, 1) := by decide +kernel
theorem dL_roll_2 : decode cL_roll 2 = .ok (.aload_n 0, 1) := by decide +kernel
theorem dL_roll_3 : decode cL_roll 3 = .ok (.iload_n 1, 1) := by decide +kernel
theorem dL_roll_4 : decode cL_roll 4 = .ok (.invokevirtual 19, 3) := by decide +kernel
theorem dL_roll_7 : decode cL_roll 7 = .ok (.ifCond .eq 7, 3) := by decide +kernel
theorem dL_roll_10 : decode cL_roll 10 = .ok (.lconst 1, 1) := by decide +kernel
theorem dL_roll_11 : decode cL_roll 11 = .ok (.goto 4, 3) := by decide +kernel
theorem dL_roll_14 : decode cL_roll 14 = .ok (.lconst 0, 1) := by decide +kernel
theorem dL_roll_15 : decode cL_roll 15 = .ok (.lastore, 1) := by decide +kernel
theorem dL_roll_16 : decode cL_roll 16 = .ok (.goto 6, 3) := by decide +kernel
theorem dL_roll_19 : decode cL_roll 19 = .ok (.astore_n 3, 1) := by decide +kernel
theorem dL_roll_20 : decode cL_roll 20 = .ok (.iconst 1, 1) := by decide +kernel
theorem dL_roll_21 : decode cL_roll 21 = .ok (.ireturn, 1) := by decide +kernel
theorem dL_roll_22 : decode cL_roll 22 = .ok (.iconst 0, 1) := by decide +kernel
theorem dL_roll_23 : decode cL_roll 23 = .ok (.ireturn, 1) := by decide +kernel
theorem dL_move_0 : decode cL_move 0 = .ok (.aload 4, 2) := by decide +kernel
theorem dL_move_2 : decode cL_move 2 = .ok (.iconst 0, 1) := by decide +kernel
theorem dL_move_3 : decode cL_move 3 = .ok (.aload_n 0, 1) := by decide +kernel
theorem dL_move_4 : decode cL_move 4 = .ok (.iload_n 1, 1) := by decide +kernel
theorem dL_move_5 : decode cL_move 5 = .ok (.iload_n 2, 1) := by decide +kernel
theorem dL_move_6 : decode cL_move 6 = .ok (.iload_n 3, 1) := by decide +kernel
theorem dL_move_7 : decode cL_move 7 = .ok (.invokevirtual 23, 3) := by decide +kernel
theorem dL_move_10 : decode cL_move 10 = .ok (.i2l, 1) := by decide +kernel
theorem dL_move_11 : decode cL_move 11 = .ok (.lastore, 1) := by decide +kernel
theorem dL_move_12 : decode cL_move 12 = .ok (.goto 7, 3) := by decide +kernel
theorem dL_move_15 : decode cL_move 15 = .ok (.astore 5, 2) := by decide +kernel
theorem dL_move_17 : decode cL_move 17 = .ok (.iconst 1, 1) := by decide +kernel
theorem dL_move_18 : decode cL_move 18 = .ok (.ireturn, 1) := by decide +kernel
theorem dL_move_19 : decode cL_move 19 = .ok (.iconst 0, 1) := by decide +kernel
theorem dL_move_20 : decode cL_move 20 = .ok (.ireturn, 1) := by decide +kernel
theorem dL_take_0 : decode cL_take 0 = .ok (.aload_n 2, 1) := by decide +kernel
theorem dL_take_1 : decode cL_take 1 = .ok (.iconst 0, 1) := by decide +kernel
theorem dL_take_2 : decode cL_take 2 = .ok (.aload_n 0, 1) := by decide +kernel
theorem dL_take_3 : decode cL_take 3 = .ok (.iload_n 1, 1) := by decide +kernel
theorem dL_take_4 : decode cL_take 4 = .ok (.invokevirtual 27, 3) := by decide +kernel
theorem dL_take_7 : decode cL_take 7 = .ok (.i2l, 1) := by decide +kernel
theorem dL_take_8 : decode cL_take 8 = .ok (.lastore, 1) := by decide +kernel
theorem dL_take_9 : decode cL_take 9 = .ok (.goto 6, 3) := by decide +kernel
theorem dL_take_12 : decode cL_take 12 = .ok (.astore_n 3, 1) := by decide +kernel
theorem dL_take_13 : decode cL_take 13 = .ok (.iconst 1, 1) := by decide +kernel
theorem dL_take_14 : decode cL_take 14 = .ok (.ireturn, 1) := by decide +kernel
theorem dL_take_15 : decode cL_take 15 = .ok (.iconst 0, 1) := by decide +kernel
theorem dL_take_16 : decode cL_take 16 = .ok (.ireturn, 1) := by decide +kernel
theorem dL_stall_0 : decode cL_stall 0 = .ok (.aload_n 3, 1) := by decide +kernel
theorem dL_stall_1 : decode cL_stall 1 = .ok (.iconst 0, 1) := by decide +kernel
theorem dL_stall_2 : decode cL_stall 2 = .ok (.aload_n 0, 1) := by decide +kernel
theorem dL_stall_3 : decode cL_stall 3 = .ok (.iload_n 1, 1) := by decide +kernel
theorem dL_stall_4 : decode cL_stall 4 = .ok (.iload_n 2, 1) := by decide +kernel
theorem dL_stall_5 : decode cL_stall 5 = .ok (.invokevirtual 31, 3) := by decide +kernel
theorem dL_stall_8 : decode cL_stall 8 = .ok (.i2l, 1) := by decide +kernel
theorem dL_stall_9 : decode cL_stall 9 = .ok (.lastore, 1) := by decide +kernel
theorem dL_stall_10 : decode cL_stall 10 = .ok (.goto 11, 3) := by decide +kernel
theorem dL_stall_13 : decode cL_stall 13 = .ok (.astore 4, 2) := by decide +kernel
theorem dL_stall_15 : decode cL_stall 15 = .ok (.iconst 1, 1) := by decide +kernel
theorem dL_stall_16 : decode cL_stall 16 = .ok (.ireturn, 1) := by decide +kernel
theorem dL_stall_17 : decode cL_stall 17 = .ok (.astore 4, 2) := by decide +kernel
theorem dL_stall_19 : decode cL_stall 19 = .ok (.iconst 2, 1) := by decide +kernel
theorem dL_stall_20 : decode cL_stall 20 = .ok (.ireturn, 1) := by decide +kernel
theorem dL_stall_21 : decode cL_stall 21 = .ok (.iconst 0, 1) := by decide +kernel
theorem dL_stall_22 : decode cL_stall 22 = .ok (.ireturn, 1) := by decide +kernel
theorem dL_rain_0 : decode cL_rain 0 = .ok (.aload_n 2, 1) := by decide +kernel
theorem dL_rain_1 : decode cL_rain 1 = .ok (.iconst 0, 1) := by decide +kernel
theorem dL_rain_2 : decode cL_rain 2 = .ok (.aload_n 0, 1) := by decide +kernel
theorem dL_rain_3 : decode cL_rain 3 = .ok (.iload_n 1, 1) := by decide +kernel
theorem dL_rain_4 : decode cL_rain 4 = .ok (.invokevirtual 35, 3) := by decide +kernel
theorem dL_rain_7 : decode cL_rain 7 = .ok (.i2l, 1) := by decide +kernel
theorem dL_rain_8 : decode cL_rain 8 = .ok (.lastore, 1) := by decide +kernel
theorem dL_rain_9 : decode cL_rain 9 = .ok (.goto 6, 3) := by decide +kernel
theorem dL_rain_12 : decode cL_rain 12 = .ok (.astore_n 3, 1) := by decide +kernel
theorem dL_rain_13 : decode cL_rain 13 = .ok (.iconst 1, 1) := by decide +kernel
theorem dL_rain_14 : decode cL_rain 14 = .ok (.ireturn, 1) := by decide +kernel
theorem dL_rain_15 : decode cL_rain 15 = .ok (.iconst 0, 1) := by decide +kernel
theorem dL_rain_16 : decode cL_rain 16 = .ok (.ireturn, 1) := by decide +kernel
theorem dL_about_0 : decode cL_about 0 = .ok (.aload_n 3, 1) := by decide +kernel
theorem dL_about_1 : decode cL_about 1 = .ok (.iconst 0, 1) := by decide +kernel
theorem dL_about_2 : decode cL_about 2 = .ok (.aload_n 0, 1) := by decide +kernel
theorem dL_about_3 : decode cL_about 3 = .ok (.iload_n 1, 1) := by decide +kernel
theorem dL_about_4 : decode cL_about 4 = .ok (.iload_n 2, 1) := by decide +kernel
theorem dL_about_5 : decode cL_about 5 = .ok (.invokevirtual 38, 3) := by decide +kernel
theorem dL_about_8 : decode cL_about 8 = .ok (.i2l, 1) := by decide +kernel
theorem dL_about_9 : decode cL_about 9 = .ok (.lastore, 1) := by decide +kernel
theorem dL_about_10 : decode cL_about 10 = .ok (.goto 7, 3) := by decide +kernel
theorem dL_about_13 : decode cL_about 13 = .ok (.astore 4, 2) := by decide +kernel
theorem dL_about_15 : decode cL_about 15 = .ok (.iconst 1, 1) := by decide +kernel
theorem dL_about_16 : decode cL_about 16 = .ok (.ireturn, 1) := by decide +kernel
theorem dL_about_17 : decode cL_about 17 = .ok (.iconst 0, 1) := by decide +kernel
theorem dL_about_18 : decode cL_about 18 = .ok (.ireturn, 1) := by decide +kernel
theorem dL_cell_0 : decode cL_cell 0 = .ok (.aload 4, 2) := by decide +kernel
theorem dL_cell_2 : decode cL_cell 2 = .ok (.iconst 0, 1) := by decide +kernel
theorem dL_cell_3 : decode cL_cell 3 = .ok (.aload_n 0, 1) := by decide +kernel
theorem dL_cell_4 : decode cL_cell 4 = .ok (.iload_n 1, 1) := by decide +kernel
theorem dL_cell_5 : decode cL_cell 5 = .ok (.iload_n 2, 1) := by decide +kernel
theorem dL_cell_6 : decode cL_cell 6 = .ok (.iload_n 3, 1) := by decide +kernel
theorem dL_cell_7 : decode cL_cell 7 = .ok (.invokevirtual 41, 3) := by decide +kernel
theorem dL_cell_10 : decode cL_cell 10 = .ok (.i2l, 1) := by decide +kernel
theorem dL_cell_11 : decode cL_cell 11 = .ok (.lastore, 1) := by decide +kernel
theorem dL_cell_12 : decode cL_cell 12 = .ok (.goto 7, 3) := by decide +kernel
theorem dL_cell_15 : decode cL_cell 15 = .ok (.astore 5, 2) := by decide +kernel
theorem dL_cell_17 : decode cL_cell 17 = .ok (.iconst 1, 1) := by decide +kernel
theorem dL_cell_18 : decode cL_cell 18 = .ok (.ireturn, 1) := by decide +kernel
theorem dL_cell_19 : decode cL_cell 19 = .ok (.iconst 0, 1) := by decide +kernel
theorem dL_cell_20 : decode cL_cell 20 = .ok (.ireturn, 1) := by decide +kernel
theorem dL_cord_0 : decode cL_cord 0 = .ok (.aload_n 3, 1) := by decide +kernel
theorem dL_cord_1 : decode cL_cord 1 = .ok (.iconst 0, 1) := by decide +kernel
theorem dL_cord_2 : decode cL_cord 2 = .ok (.aload_n 0, 1) := by decide +kernel
theorem dL_cord_3 : decode cL_cord 3 = .ok (.iload_n 1, 1) := by decide +kernel
theorem dL_cord_4 : decode cL_cord 4 = .ok (.iload_n 2, 1) := by decide +kernel
theorem dL_cord_5 : decode cL_cord 5 = .ok (.invokevirtual 44, 3) := by decide +kernel
theorem dL_cord_8 : decode cL_cord 8 = .ok (.i2l, 1) := by decide +kernel
theorem dL_cord_9 : decode cL_cord 9 = .ok (.lastore, 1) := by decide +kernel
theorem dL_cord_10 : decode cL_cord 10 = .ok (.goto 7, 3) := by decide +kernel
theorem dL_cord_13 : decode cL_cord 13 = .ok (.astore 4, 2) := by decide +kernel
theorem dL_cord_15 : decode cL_cord 15 = .ok (.iconst 1, 1) := by decide +kernel
theorem dL_cord_16 : decode cL_cord 16 = .ok (.ireturn, 1) := by decide +kernel
theorem dL_cord_17 : decode cL_cord 17 = .ok (.iconst 0, 1) := by decide +kernel
theorem dL_cord_18 : decode cL_cord 18 = .ok (.ireturn, 1) := by decide +kernel
theorem dL_told_0 : decode cL_told 0 = .ok (.aload_n 3, 1) := by decide +kernel
theorem dL_told_1 : decode cL_told 1 = .ok (.iconst 0, 1) := by decide +kernel
theorem dL_told_2 : decode cL_told 2 = .ok (.aload_n 0, 1) := by decide +kernel
theorem dL_told_3 : decode cL_told 3 = .ok (.iload_n 1, 1) := by decide +kernel
theorem dL_told_4 : decode cL_told 4 = .ok (.iload_n 2, 1) := by decide +kernel
theorem dL_told_5 : decode cL_told 5 = .ok (.invokevirtual 47, 3) := by decide +kernel
theorem dL_told_8 : decode cL_told 8 = .ok (.i2l, 1) := by decide +kernel
theorem dL_told_9 : decode cL_told 9 = .ok (.lastore, 1) := by decide +kernel
theorem dL_told_10 : decode cL_told 10 = .ok (.goto 7, 3) := by decide +kernel
theorem dL_told_13 : decode cL_told 13 = .ok (.astore 4, 2) := by decide +kernel
theorem dL_told_15 : decode cL_told 15 = .ok (.iconst 1, 1) := by decide +kernel
theorem dL_told_16 : decode cL_told 16 = .ok (.ireturn, 1) := by decide +kernel
theorem dL_told_17 : decode cL_told 17 = .ok (.iconst 0, 1) := by decide +kernel
theorem dL_told_18 : decode cL_told 18 = .ok (.ireturn, 1) := by decide +kernel
theorem dL_share_0 : decode cL_share 0 = .ok (.aload_n 3, 1) := by decide +kernel
theorem dL_share_1 : decode cL_share 1 = .ok (.iconst 0, 1) := by decide +kernel
theorem dL_share_2 : decode cL_share 2 = .ok (.aload_n 0, 1) := by decide +kernel
theorem dL_share_3 : decode cL_share 3 = .ok (.iload_n 1, 1) := by decide +kernel
theorem dL_share_4 : decode cL_share 4 = .ok (.iload_n 2, 1) := by decide +kernel
theorem dL_share_5 : decode cL_share 5 = .ok (.invokevirtual 50, 3) := by decide +kernel
theorem dL_share_8 : decode cL_share 8 = .ok (.i2l, 1) := by decide +kernel
theorem dL_share_9 : decode cL_share 9 = .ok (.lastore, 1) := by decide +kernel
theorem dL_share_10 : decode cL_share 10 = .ok (.goto 7, 3) := by decide +kernel
theorem dL_share_13 : decode cL_share 13 = .ok (.astore 4, 2) := by decide +kernel
theorem dL_share_15 : decode cL_share 15 = .ok (.iconst 1, 1) := by decide +kernel
theorem dL_share_16 : decode cL_share 16 = .ok (.ireturn, 1) := by decide +kernel
theorem dL_share_17 : decode cL_share 17 = .ok (.iconst 0, 1) := by decide +kernel
theorem dL_share_18 : decode cL_share 18 = .ok (.ireturn, 1) := by decide +kernel
theorem dL_count_0 : decode cL_count 0 = .ok (.aload_n 2, 1) := by decide +kernel
theorem dL_count_1 : decode cL_count 1 = .ok (.iconst 0, 1) := by decide +kernel
theorem dL_count_2 : decode cL_count 2 = .ok (.aload_n 0, 1) := by decide +kernel
theorem dL_count_3 : decode cL_count 3 = .ok (.iload_n 1, 1) := by decide +kernel
theorem dL_count_4 : decode cL_count 4 = .ok (.invokevirtual 53, 3) := by decide +kernel
theorem dL_count_7 : decode cL_count 7 = .ok (.i2l, 1) := by decide +kernel
theorem dL_count_8 : decode cL_count 8 = .ok (.lastore, 1) := by decide +kernel
theorem dL_count_9 : decode cL_count 9 = .ok (.goto 6, 3) := by decide +kernel
theorem dL_count_12 : decode cL_count 12 = .ok (.astore_n 3, 1) := by decide +kernel
theorem dL_count_13 : decode cL_count 13 = .ok (.iconst 1, 1) := by decide +kernel
theorem dL_count_14 : decode cL_count 14 = .ok (.ireturn, 1) := by decide +kernel
theorem dL_count_15 : decode cL_count 15 = .ok (.iconst 0, 1) := by decide +kernel
theorem dL_count_16 : decode cL_count 16 = .ok (.ireturn, 1) := by decide +kernel
theorem dL_would_0 : decode cL_would 0 = .ok (.aload_n 3, 1) := by decide +kernel
theorem dL_would_1 : decode cL_would 1 = .ok (.iconst 0, 1) := by decide +kernel
theorem dL_would_2 : decode cL_would 2 = .ok (.aload_n 0, 1) := by decide +kernel
theorem dL_would_3 : decode cL_would 3 = .ok (.iload_n 1, 1) := by decide +kernel
theorem dL_would_4 : decode cL_would 4 = .ok (.iload_n 2, 1) := by decide +kernel
theorem dL_would_5 : decode cL_would 5 = .ok (.invokevirtual 56, 3) := by decide +kernel
theorem dL_would_8 : decode cL_would 8 = .ok (.i2l, 1) := by decide +kernel
theorem dL_would_9 : decode cL_would 9 = .ok (.lastore, 1) := by decide +kernel
theorem dL_would_10 : decode cL_would 10 = .ok (.goto 11, 3) := by decide +kernel
theorem dL_would_13 : decode cL_would 13 = .ok (.astore 4, 2) := by decide +kernel
theorem dL_would_15 : decode cL_would 15 = .ok (.iconst 1, 1) := by decide +kernel
theorem dL_would_16 : decode cL_would 16 = .ok (.ireturn, 1) := by decide +kernel
theorem dL_would_17 : decode cL_would 17 = .ok (.astore 4, 2) := by decide +kernel
theorem dL_would_19 : decode cL_would 19 = .ok (.iconst 2, 1) := by decide +kernel
theorem dL_would_20 : decode cL_would 20 = .ok (.ireturn, 1) := by decide +kernel
theorem dL_would_21 : decode cL_would 21 = .ok (.iconst 0, 1) := by decide +kernel
theorem dL_would_22 : decode cL_would 22 = .ok (.ireturn, 1) := by decide +kernel
theorem dL_best_0 : decode cL_best 0 = .ok (.aload 4, 2) := by decide +kernel
theorem dL_best_2 : decode cL_best 2 = .ok (.iconst 0, 1) := by decide +kernel
theorem dL_best_3 : decode cL_best 3 = .ok (.aload_n 0, 1) := by decide +kernel
theorem dL_best_4 : decode cL_best 4 = .ok (.iload_n 1, 1) := by decide +kernel
theorem dL_best_5 : decode cL_best 5 = .ok (.iload_n 2, 1) := by decide +kernel
theorem dL_best_6 : decode cL_best 6 = .ok (.iload_n 3, 1) := by decide +kernel
theorem dL_best_7 : decode cL_best 7 = .ok (.invokevirtual 59, 3) := by decide +kernel
theorem dL_best_10 : decode cL_best 10 = .ok (.i2l, 1) := by decide +kernel
theorem dL_best_11 : decode cL_best 11 = .ok (.lastore, 1) := by decide +kernel
theorem dL_best_12 : decode cL_best 12 = .ok (.goto 11, 3) := by decide +kernel
theorem dL_best_15 : decode cL_best 15 = .ok (.astore 5, 2) := by decide +kernel
theorem dL_best_17 : decode cL_best 17 = .ok (.iconst 1, 1) := by decide +kernel
theorem dL_best_18 : decode cL_best 18 = .ok (.ireturn, 1) := by decide +kernel
theorem dL_best_19 : decode cL_best 19 = .ok (.astore 5, 2) := by decide +kernel
theorem dL_best_21 : decode cL_best 21 = .ok (.iconst 2, 1) := by decide +kernel
theorem dL_best_22 : decode cL_best 22 = .ok (.ireturn, 1) := by decide +kernel
theorem dL_best_23 : decode cL_best 23 = .ok (.iconst 0, 1) := by decide +kernel
theorem dL_best_24 : decode cL_best 24 = .ok (.ireturn, 1) := by decide +kernel
theorem dL_law_0 : decode cL_law 0 = .ok (.new 8, 3) := by decide +kernel
theorem dL_law_3 : decode cL_law 3 = .ok (.dup, 1) := by decide +kernel
theorem dL_law_4 : decode cL_law 4 = .ok (.invokespecial 62, 3) := by decide +kernel
theorem dL_law_7 : decode cL_law 7 = .ok (.astore_n 1, 1) := by decide +kernel
theorem dL_law_8 : decode cL_law 8 = .ok (.new 63, 3) := by decide +kernel
theorem dL_law_11 : decode cL_law 11 = .ok (.dup, 1) := by decide +kernel
theorem dL_law_12 : decode cL_law 12 = .ok (.invokespecial 65, 3) := by decide +kernel
theorem dL_law_15 : decode cL_law 15 = .ok (.astore_n 2, 1) := by decide +kernel
theorem dL_law_16 : decode cL_law 16 = .ok (.iconst 1, 1) := by decide +kernel
theorem dL_law_17 : decode cL_law 17 = .ok (.newarray .long, 2) := by decide +kernel
theorem dL_law_19 : decode cL_law 19 = .ok (.astore_n 3, 1) := by decide +kernel
theorem dL_law_20 : decode cL_law 20 = .ok (.iconst 0, 1) := by decide +kernel
theorem dL_law_21 : decode cL_law 21 = .ok (.istore 4, 2) := by decide +kernel
theorem dL_law_23 : decode cL_law 23 = .ok (.iload 4, 2) := by decide +kernel
theorem dL_law_25 : decode cL_law 25 = .ok (.aload_n 0, 1) := by decide +kernel
theorem dL_law_26 : decode cL_law 26 = .ok (.arraylength, 1) := by decide +kernel
theorem dL_law_27 : decode cL_law 27 = .ok (.bipush 7, 2) := by decide +kernel
theorem dL_law_29 : decode cL_law 29 = .ok (.isub, 1) := by decide +kernel
theorem dL_law_30 : decode cL_law 30 = .ok (.if_icmp .gt 1165, 3) := by decide +kernel
theorem dL_law_33 : decode cL_law 33 = .ok (.aload_n 0, 1) := by decide +kernel
theorem dL_law_34 : decode cL_law 34 = .ok (.iload 4, 2) := by decide +kernel
theorem dL_law_36 : decode cL_law 36 = .ok (.iaload, 1) := by decide +kernel
theorem dL_law_37 : decode cL_law 37 = .ok (.bipush 31, 2) := by decide +kernel
theorem dL_law_39 : decode cL_law 39 = .ok (.iand, 1) := by decide +kernel
theorem dL_law_40 : decode cL_law 40 = .ok (.tableswitch 1149 0 16 #[84, 202, 265, 345, 401, 469, 525, 593, 673, 741, 809, 877, 933, 1001, 1081, 1094, 1135], 84) := by decide +kernel
theorem dL_law_124 : decode cL_law 124 = .ok (.aload_n 1, 1) := by decide +kernel
theorem dL_law_125 : decode cL_law 125 = .ok (.aload_n 0, 1) := by decide +kernel
theorem dL_law_126 : decode cL_law 126 = .ok (.iload 4, 2) := by decide +kernel
theorem dL_law_128 : decode cL_law 128 = .ok (.iconst 1, 1) := by decide +kernel
theorem dL_law_129 : decode cL_law 129 = .ok (.iadd, 1) := by decide +kernel
theorem dL_law_130 : decode cL_law 130 = .ok (.iaload, 1) := by decide +kernel
theorem dL_law_131 : decode cL_law 131 = .ok (.aload_n 0, 1) := by decide +kernel
theorem dL_law_132 : decode cL_law 132 = .ok (.iload 4, 2) := by decide +kernel
theorem dL_law_134 : decode cL_law 134 = .ok (.iconst 2, 1) := by decide +kernel
theorem dL_law_135 : decode cL_law 135 = .ok (.iadd, 1) := by decide +kernel
theorem dL_law_136 : decode cL_law 136 = .ok (.iaload, 1) := by decide +kernel
theorem dL_law_137 : decode cL_law 137 = .ok (.aload_n 0, 1) := by decide +kernel
theorem dL_law_138 : decode cL_law 138 = .ok (.iload 4, 2) := by decide +kernel
theorem dL_law_140 : decode cL_law 140 = .ok (.iconst 3, 1) := by decide +kernel
theorem dL_law_141 : decode cL_law 141 = .ok (.iadd, 1) := by decide +kernel
theorem dL_law_142 : decode cL_law 142 = .ok (.iaload, 1) := by decide +kernel
theorem dL_law_143 : decode cL_law 143 = .ok (.aload_n 0, 1) := by decide +kernel
theorem dL_law_144 : decode cL_law 144 = .ok (.iload 4, 2) := by decide +kernel
theorem dL_law_146 : decode cL_law 146 = .ok (.iconst 4, 1) := by decide +kernel
theorem dL_law_147 : decode cL_law 147 = .ok (.iadd, 1) := by decide +kernel
theorem dL_law_148 : decode cL_law 148 = .ok (.iaload, 1) := by decide +kernel
theorem dL_law_149 : decode cL_law 149 = .ok (.aload_n 0, 1) := by decide +kernel
theorem dL_law_150 : decode cL_law 150 = .ok (.iload 4, 2) := by decide +kernel
theorem dL_law_152 : decode cL_law 152 = .ok (.iconst 5, 1) := by decide +kernel
theorem dL_law_153 : decode cL_law 153 = .ok (.iadd, 1) := by decide +kernel
theorem dL_law_154 : decode cL_law 154 = .ok (.iaload, 1) := by decide +kernel
theorem dL_law_155 : decode cL_law 155 = .ok (.aload_n 0, 1) := by decide +kernel
theorem dL_law_156 : decode cL_law 156 = .ok (.iload 4, 2) := by decide +kernel
theorem dL_law_158 : decode cL_law 158 = .ok (.bipush 6, 2) := by decide +kernel
theorem dL_law_160 : decode cL_law 160 = .ok (.iadd, 1) := by decide +kernel
theorem dL_law_161 : decode cL_law 161 = .ok (.iaload, 1) := by decide +kernel
theorem dL_law_162 : decode cL_law 162 = .ok (.aload_n 3, 1) := by decide +kernel
theorem dL_law_163 : decode cL_law 163 = .ok (.invokestatic 66, 3) := by decide +kernel
theorem dL_law_166 : decode cL_law 166 = .ok (.istore 5, 2) := by decide +kernel
theorem dL_law_168 : decode cL_law 168 = .ok (.aload_n 2, 1) := by decide +kernel
theorem dL_law_169 : decode cL_law 169 = .ok (.aload_n 0, 1) := by decide +kernel
theorem dL_law_170 : decode cL_law 170 = .ok (.iload 4, 2) := by decide +kernel
theorem dL_law_172 : decode cL_law 172 = .ok (.iconst 1, 1) := by decide +kernel
theorem dL_law_173 : decode cL_law 173 = .ok (.iadd, 1) := by decide +kernel
theorem dL_law_174 : decode cL_law 174 = .ok (.iaload, 1) := by decide +kernel
theorem dL_law_175 : decode cL_law 175 = .ok (.aload_n 0, 1) := by decide +kernel
theorem dL_law_176 : decode cL_law 176 = .ok (.iload 4, 2) := by decide +kernel
theorem dL_law_178 : decode cL_law 178 = .ok (.iconst 2, 1) := by decide +kernel
theorem dL_law_179 : decode cL_law 179 = .ok (.iadd, 1) := by decide +kernel
theorem dL_law_180 : decode cL_law 180 = .ok (.iaload, 1) := by decide +kernel
theorem dL_law_181 : decode cL_law 181 = .ok (.aload_n 0, 1) := by decide +kernel
theorem dL_law_182 : decode cL_law 182 = .ok (.iload 4, 2) := by decide +kernel
theorem dL_law_184 : decode cL_law 184 = .ok (.iconst 3, 1) := by decide +kernel
theorem dL_law_185 : decode cL_law 185 = .ok (.iadd, 1) := by decide +kernel
theorem dL_law_186 : decode cL_law 186 = .ok (.iaload, 1) := by decide +kernel
theorem dL_law_187 : decode cL_law 187 = .ok (.aload_n 0, 1) := by decide +kernel
theorem dL_law_188 : decode cL_law 188 = .ok (.iload 4, 2) := by decide +kernel
theorem dL_law_190 : decode cL_law 190 = .ok (.iconst 4, 1) := by decide +kernel
theorem dL_law_191 : decode cL_law 191 = .ok (.iadd, 1) := by decide +kernel
theorem dL_law_192 : decode cL_law 192 = .ok (.iaload, 1) := by decide +kernel
theorem dL_law_193 : decode cL_law 193 = .ok (.aload_n 0, 1) := by decide +kernel
theorem dL_law_194 : decode cL_law 194 = .ok (.iload 4, 2) := by decide +kernel
theorem dL_law_196 : decode cL_law 196 = .ok (.iconst 5, 1) := by decide +kernel
theorem dL_law_197 : decode cL_law 197 = .ok (.iadd, 1) := by decide +kernel
theorem dL_law_198 : decode cL_law 198 = .ok (.iaload, 1) := by decide +kernel
theorem dL_law_199 : decode cL_law 199 = .ok (.aload_n 0, 1) := by decide +kernel
theorem dL_law_200 : decode cL_law 200 = .ok (.iload 4, 2) := by decide +kernel
theorem dL_law_202 : decode cL_law 202 = .ok (.bipush 6, 2) := by decide +kernel
theorem dL_law_204 : decode cL_law 204 = .ok (.iadd, 1) := by decide +kernel
theorem dL_law_205 : decode cL_law 205 = .ok (.iaload, 1) := by decide +kernel
theorem dL_law_206 : decode cL_law 206 = .ok (.invokevirtual 71, 3) := by decide +kernel
theorem dL_law_209 : decode cL_law 209 = .ok (.istore 6, 2) := by decide +kernel
theorem dL_law_211 : decode cL_law 211 = .ok (.aload_n 2, 1) := by decide +kernel
theorem dL_law_212 : decode cL_law 212 = .ok (.invokevirtual 72, 3) := by decide +kernel
theorem dL_law_215 : decode cL_law 215 = .ok (.iload 5, 2) := by decide +kernel
theorem dL_law_217 : decode cL_law 217 = .ok (.if_icmp .eq 5, 3) := by decide +kernel
theorem dL_law_220 : decode cL_law 220 = .ok (.iconst 0, 1) := by decide +kernel
theorem dL_law_221 : decode cL_law 221 = .ok (.ireturn, 1) := by decide +kernel
theorem dL_law_222 : decode cL_law 222 = .ok (.iload 5, 2) := by decide +kernel
theorem dL_law_224 : decode cL_law 224 = .ok (.ifCond .ne 15, 3) := by decide +kernel
theorem dL_law_227 : decode cL_law 227 = .ok (.aload_n 3, 1) := by decide +kernel
theorem dL_law_228 : decode cL_law 228 = .ok (.iconst 0, 1) := by decide +kernel
theorem dL_law_229 : decode cL_law 229 = .ok (.laload, 1) := by decide +kernel
theorem dL_law_230 : decode cL_law 230 = .ok (.iload 6, 2) := by decide +kernel
theorem dL_law_232 : decode cL_law 232 = .ok (.i2l, 1) := by decide +kernel
theorem dL_law_233 : decode cL_law 233 = .ok (.lcmp, 1) := by decide +kernel
theorem dL_law_234 : decode cL_law 234 = .ok (.ifCond .eq 5, 3) := by decide +kernel
theorem dL_law_237 : decode cL_law 237 = .ok (.iconst 0, 1) := by decide +kernel
theorem dL_law_238 : decode cL_law 238 = .ok (.ireturn, 1) := by decide +kernel
theorem dL_law_239 : decode cL_law 239 = .ok (.goto 950, 3) := by decide +kernel
theorem dL_law_242 : decode cL_law 242 = .ok (.aload_n 1, 1) := by decide +kernel
theorem dL_law_243 : decode cL_law 243 = .ok (.aload_n 0, 1) := by decide +kernel
theorem dL_law_244 : decode cL_law 244 = .ok (.iload 4, 2) := by decide +kernel
theorem dL_law_246 : decode cL_law 246 = .ok (.iconst 1, 1) := by decide +kernel
theorem dL_law_247 : decode cL_law 247 = .ok (.iadd, 1) := by decide +kernel
theorem dL_law_248 : decode cL_law 248 = .ok (.iaload, 1) := by decide +kernel
theorem dL_law_249 : decode cL_law 249 = .ok (.aload_n 3, 1) := by decide +kernel
theorem dL_law_250 : decode cL_law 250 = .ok (.invokestatic 76, 3) := by decide +kernel
theorem dL_law_253 : decode cL_law 253 = .ok (.istore 5, 2) := by decide +kernel
theorem dL_law_255 : decode cL_law 255 = .ok (.aload_n 2, 1) := by decide +kernel
theorem dL_law_256 : decode cL_law 256 = .ok (.aload_n 0, 1) := by decide +kernel
theorem dL_law_257 : decode cL_law 257 = .ok (.iload 4, 2) := by decide +kernel
theorem dL_law_259 : decode cL_law 259 = .ok (.iconst 1, 1) := by decide +kernel
theorem dL_law_260 : decode cL_law 260 = .ok (.iadd, 1) := by decide +kernel
theorem dL_law_261 : decode cL_law 261 = .ok (.iaload, 1) := by decide +kernel
theorem dL_law_262 : decode cL_law 262 = .ok (.invokevirtual 79, 3) := by decide +kernel
theorem dL_law_265 : decode cL_law 265 = .ok (.istore 6, 2) := by decide +kernel
theorem dL_law_267 : decode cL_law 267 = .ok (.aload_n 2, 1) := by decide +kernel
theorem dL_law_268 : decode cL_law 268 = .ok (.invokevirtual 72, 3) := by decide +kernel
theorem dL_law_271 : decode cL_law 271 = .ok (.iload 5, 2) := by decide +kernel
theorem dL_law_273 : decode cL_law 273 = .ok (.if_icmp .eq 5, 3) := by decide +kernel
theorem dL_law_276 : decode cL_law 276 = .ok (.iconst 0, 1) := by decide +kernel
theorem dL_law_277 : decode cL_law 277 = .ok (.ireturn, 1) := by decide +kernel
theorem dL_law_278 : decode cL_law 278 = .ok (.iload 5, 2) := by decide +kernel
theorem dL_law_280 : decode cL_law 280 = .ok (.ifCond .ne 22, 3) := by decide +kernel
theorem dL_law_283 : decode cL_law 283 = .ok (.aload_n 3, 1) := by decide +kernel
theorem dL_law_284 : decode cL_law 284 = .ok (.iconst 0, 1) := by decide +kernel
theorem dL_law_285 : decode cL_law 285 = .ok (.laload, 1) := by decide +kernel
theorem dL_law_286 : decode cL_law 286 = .ok (.iload 6, 2) := by decide +kernel
theorem dL_law_288 : decode cL_law 288 = .ok (.ifCond .eq 7, 3) := by decide +kernel
theorem dL_law_291 : decode cL_law 291 = .ok (.lconst 1, 1) := by decide +kernel
theorem dL_law_292 : decode cL_law 292 = .ok (.goto 4, 3) := by decide +kernel
theorem dL_law_295 : decode cL_law 295 = .ok (.lconst 0, 1) := by decide +kernel
theorem dL_law_296 : decode cL_law 296 = .ok (.lcmp, 1) := by decide +kernel
theorem dL_law_297 : decode cL_law 297 = .ok (.ifCond .eq 5, 3) := by decide +kernel
theorem dL_law_300 : decode cL_law 300 = .ok (.iconst 0, 1) := by decide +kernel
theorem dL_law_301 : decode cL_law 301 = .ok (.ireturn, 1) := by decide +kernel
theorem dL_law_302 : decode cL_law 302 = .ok (.goto 887, 3) := by decide +kernel
theorem dL_law_305 : decode cL_law 305 = .ok (.aload_n 1, 1) := by decide +kernel
theorem dL_law_306 : decode cL_law 306 = .ok (.aload_n 0, 1) := by decide +kernel
theorem dL_law_307 : decode cL_law 307 = .ok (.iload 4, 2) := by decide +kernel
theorem dL_law_309 : decode cL_law 309 = .ok (.iconst 1, 1) := by decide +kernel
theorem dL_law_310 : decode cL_law 310 = .ok (.iadd, 1) := by decide +kernel
theorem dL_law_311 : decode cL_law 311 = .ok (.iaload, 1) := by decide +kernel
theorem dL_law_312 : decode cL_law 312 = .ok (.aload_n 0, 1) := by decide +kernel
theorem dL_law_313 : decode cL_law 313 = .ok (.iload 4, 2) := by decide +kernel
theorem dL_law_315 : decode cL_law 315 = .ok (.iconst 2, 1) := by decide +kernel
theorem dL_law_316 : decode cL_law 316 = .ok (.iadd, 1) := by decide +kernel
theorem dL_law_317 : decode cL_law 317 = .ok (.iaload, 1) := by decide +kernel
theorem dL_law_318 : decode cL_law 318 = .ok (.aload_n 0, 1) := by decide +kernel
theorem dL_law_319 : decode cL_law 319 = .ok (.iload 4, 2) := by decide +kernel
theorem dL_law_321 : decode cL_law 321 = .ok (.iconst 3, 1) := by decide +kernel
theorem dL_law_322 : decode cL_law 322 = .ok (.iadd, 1) := by decide +kernel
theorem dL_law_323 : decode cL_law 323 = .ok (.iaload, 1) := by decide +kernel
theorem dL_law_324 : decode cL_law 324 = .ok (.aload_n 3, 1) := by decide +kernel
theorem dL_law_325 : decode cL_law 325 = .ok (.invokestatic 80, 3) := by decide +kernel
theorem dL_law_328 : decode cL_law 328 = .ok (.istore 5, 2) := by decide +kernel
theorem dL_law_330 : decode cL_law 330 = .ok (.aload_n 2, 1) := by decide +kernel
theorem dL_law_331 : decode cL_law 331 = .ok (.aload_n 0, 1) := by decide +kernel
theorem dL_law_332 : decode cL_law 332 = .ok (.iload 4, 2) := by decide +kernel
theorem dL_law_334 : decode cL_law 334 = .ok (.iconst 1, 1) := by decide +kernel
theorem dL_law_335 : decode cL_law 335 = .ok (.iadd, 1) := by decide +kernel
theorem dL_law_336 : decode cL_law 336 = .ok (.iaload, 1) := by decide +kernel
theorem dL_law_337 : decode cL_law 337 = .ok (.aload_n 0, 1) := by decide +kernel
theorem dL_law_338 : decode cL_law 338 = .ok (.iload 4, 2) := by decide +kernel
theorem dL_law_340 : decode cL_law 340 = .ok (.iconst 2, 1) := by decide +kernel
theorem dL_law_341 : decode cL_law 341 = .ok (.iadd, 1) := by decide +kernel
theorem dL_law_342 : decode cL_law 342 = .ok (.iaload, 1) := by decide +kernel
theorem dL_law_343 : decode cL_law 343 = .ok (.aload_n 0, 1) := by decide +kernel
theorem dL_law_344 : decode cL_law 344 = .ok (.iload 4, 2) := by decide +kernel
theorem dL_law_346 : decode cL_law 346 = .ok (.iconst 3, 1) := by decide +kernel
theorem dL_law_347 : decode cL_law 347 = .ok (.iadd, 1) := by decide +kernel
theorem dL_law_348 : decode cL_law 348 = .ok (.iaload, 1) := by decide +kernel
theorem dL_law_349 : decode cL_law 349 = .ok (.invokevirtual 83, 3) := by decide +kernel
theorem dL_law_352 : decode cL_law 352 = .ok (.istore 6, 2) := by decide +kernel
theorem dL_law_354 : decode cL_law 354 = .ok (.aload_n 2, 1) := by decide +kernel
theorem dL_law_355 : decode cL_law 355 = .ok (.invokevirtual 72, 3) := by decide +kernel
theorem dL_law_358 : decode cL_law 358 = .ok (.iload 5, 2) := by decide +kernel
theorem dL_law_360 : decode cL_law 360 = .ok (.if_icmp .eq 5, 3) := by decide +kernel
theorem dL_law_363 : decode cL_law 363 = .ok (.iconst 0, 1) := by decide +kernel
theorem dL_law_364 : decode cL_law 364 = .ok (.ireturn, 1) := by decide +kernel
theorem dL_law_365 : decode cL_law 365 = .ok (.iload 5, 2) := by decide +kernel
theorem dL_law_367 : decode cL_law 367 = .ok (.ifCond .ne 15, 3) := by decide +kernel
theorem dL_law_370 : decode cL_law 370 = .ok (.aload_n 3, 1) := by decide +kernel
theorem dL_law_371 : decode cL_law 371 = .ok (.iconst 0, 1) := by decide +kernel
theorem dL_law_372 : decode cL_law 372 = .ok (.laload, 1) := by decide +kernel
theorem dL_law_373 : decode cL_law 373 = .ok (.iload 6, 2) := by decide +kernel
theorem dL_law_375 : decode cL_law 375 = .ok (.i2l, 1) := by decide +kernel
theorem dL_law_376 : decode cL_law 376 = .ok (.lcmp, 1) := by decide +kernel
theorem dL_law_377 : decode cL_law 377 = .ok (.ifCond .eq 5, 3) := by decide +kernel
theorem dL_law_380 : decode cL_law 380 = .ok (.iconst 0, 1) := by decide +kernel
theorem dL_law_381 : decode cL_law 381 = .ok (.ireturn, 1) := by decide +kernel
theorem dL_law_382 : decode cL_law 382 = .ok (.goto 807, 3) := by decide +kernel
theorem dL_law_385 : decode cL_law 385 = .ok (.aload_n 1, 1) := by decide +kernel
theorem dL_law_386 : decode cL_law 386 = .ok (.aload_n 0, 1) := by decide +kernel
theorem dL_law_387 : decode cL_law 387 = .ok (.iload 4, 2) := by decide +kernel
theorem dL_law_389 : decode cL_law 389 = .ok (.iconst 1, 1) := by decide +kernel
theorem dL_law_390 : decode cL_law 390 = .ok (.iadd, 1) := by decide +kernel
theorem dL_law_391 : decode cL_law 391 = .ok (.iaload, 1) := by decide +kernel
theorem dL_law_392 : decode cL_law 392 = .ok (.aload_n 3, 1) := by decide +kernel
theorem dL_law_393 : decode cL_law 393 = .ok (.invokestatic 84, 3) := by decide +kernel
theorem dL_law_396 : decode cL_law 396 = .ok (.istore 5, 2) := by decide +kernel
theorem dL_law_398 : decode cL_law 398 = .ok (.aload_n 2, 1) := by decide +kernel
theorem dL_law_399 : decode cL_law 399 = .ok (.aload_n 0, 1) := by decide +kernel
theorem dL_law_400 : decode cL_law 400 = .ok (.iload 4, 2) := by decide +kernel
theorem dL_law_402 : decode cL_law 402 = .ok (.iconst 1, 1) := by decide +kernel
theorem dL_law_403 : decode cL_law 403 = .ok (.iadd, 1) := by decide +kernel
theorem dL_law_404 : decode cL_law 404 = .ok (.iaload, 1) := by decide +kernel
theorem dL_law_405 : decode cL_law 405 = .ok (.invokevirtual 86, 3) := by decide +kernel
theorem dL_law_408 : decode cL_law 408 = .ok (.istore 6, 2) := by decide +kernel
theorem dL_law_410 : decode cL_law 410 = .ok (.aload_n 2, 1) := by decide +kernel
theorem dL_law_411 : decode cL_law 411 = .ok (.invokevirtual 72, 3) := by decide +kernel
theorem dL_law_414 : decode cL_law 414 = .ok (.iload 5, 2) := by decide +kernel
theorem dL_law_416 : decode cL_law 416 = .ok (.if_icmp .eq 5, 3) := by decide +kernel
theorem dL_law_419 : decode cL_law 419 = .ok (.iconst 0, 1) := by decide +kernel
theorem dL_law_420 : decode cL_law 420 = .ok (.ireturn, 1) := by decide +kernel
theorem dL_law_421 : decode cL_law 421 = .ok (.iload 5, 2) := by decide +kernel
theorem dL_law_423 : decode cL_law 423 = .ok (.ifCond .ne 15, 3) := by decide +kernel
theorem dL_law_426 : decode cL_law 426 = .ok (.aload_n 3, 1) := by decide +kernel
theorem dL_law_427 : decode cL_law 427 = .ok (.iconst 0, 1) := by decide +kernel
theorem dL_law_428 : decode cL_law 428 = .ok (.laload, 1) := by decide +kernel
theorem dL_law_429 : decode cL_law 429 = .ok (.iload 6, 2) := by decide +kernel
theorem dL_law_431 : decode cL_law 431 = .ok (.i2l, 1) := by decide +kernel
theorem dL_law_432 : decode cL_law 432 = .ok (.lcmp, 1) := by decide +kernel
theorem dL_law_433 : decode cL_law 433 = .ok (.ifCond .eq 5, 3) := by decide +kernel
theorem dL_law_436 : decode cL_law 436 = .ok (.iconst 0, 1) := by decide +kernel
theorem dL_law_437 : decode cL_law 437 = .ok (.ireturn, 1) := by decide +kernel
theorem dL_law_438 : decode cL_law 438 = .ok (.goto 751, 3) := by decide +kernel
theorem dL_law_441 : decode cL_law 441 = .ok (.aload_n 1, 1) := by decide +kernel
theorem dL_law_442 : decode cL_law 442 = .ok (.aload_n 0, 1) := by decide +kernel
theorem dL_law_443 : decode cL_law 443 = .ok (.iload 4, 2) := by decide +kernel
theorem dL_law_445 : decode cL_law 445 = .ok (.iconst 1, 1) := by decide +kernel
theorem dL_law_446 : decode cL_law 446 = .ok (.iadd, 1) := by decide +kernel
theorem dL_law_447 : decode cL_law 447 = .ok (.iaload, 1) := by decide +kernel
theorem dL_law_448 : decode cL_law 448 = .ok (.aload_n 0, 1) := by decide +kernel
theorem dL_law_449 : decode cL_law 449 = .ok (.iload 4, 2) := by decide +kernel
theorem dL_law_451 : decode cL_law 451 = .ok (.iconst 2, 1) := by decide +kernel
theorem dL_law_452 : decode cL_law 452 = .ok (.iadd, 1) := by decide +kernel
theorem dL_law_453 : decode cL_law 453 = .ok (.iaload, 1) := by decide +kernel
theorem dL_law_454 : decode cL_law 454 = .ok (.aload_n 3, 1) := by decide +kernel
theorem dL_law_455 : decode cL_law 455 = .ok (.invokestatic 87, 3) := by decide +kernel
theorem dL_law_458 : decode cL_law 458 = .ok (.istore 5, 2) := by decide +kernel
theorem dL_law_460 : decode cL_law 460 = .ok (.aload_n 2, 1) := by decide +kernel
theorem dL_law_461 : decode cL_law 461 = .ok (.aload_n 0, 1) := by decide +kernel
theorem dL_law_462 : decode cL_law 462 = .ok (.iload 4, 2) := by decide +kernel
theorem dL_law_464 : decode cL_law 464 = .ok (.iconst 1, 1) := by decide +kernel
theorem dL_law_465 : decode cL_law 465 = .ok (.iadd, 1) := by decide +kernel
theorem dL_law_466 : decode cL_law 466 = .ok (.iaload, 1) := by decide +kernel
theorem dL_law_467 : decode cL_law 467 = .ok (.aload_n 0, 1) := by decide +kernel
theorem dL_law_468 : decode cL_law 468 = .ok (.iload 4, 2) := by decide +kernel
theorem dL_law_470 : decode cL_law 470 = .ok (.iconst 2, 1) := by decide +kernel
theorem dL_law_471 : decode cL_law 471 = .ok (.iadd, 1) := by decide +kernel
theorem dL_law_472 : decode cL_law 472 = .ok (.iaload, 1) := by decide +kernel
theorem dL_law_473 : decode cL_law 473 = .ok (.invokevirtual 90, 3) := by decide +kernel
theorem dL_law_476 : decode cL_law 476 = .ok (.istore 6, 2) := by decide +kernel
theorem dL_law_478 : decode cL_law 478 = .ok (.aload_n 2, 1) := by decide +kernel
theorem dL_law_479 : decode cL_law 479 = .ok (.invokevirtual 72, 3) := by decide +kernel
theorem dL_law_482 : decode cL_law 482 = .ok (.iload 5, 2) := by decide +kernel
theorem dL_law_484 : decode cL_law 484 = .ok (.if_icmp .eq 5, 3) := by decide +kernel
theorem dL_law_487 : decode cL_law 487 = .ok (.iconst 0, 1) := by decide +kernel
theorem dL_law_488 : decode cL_law 488 = .ok (.ireturn, 1) := by decide +kernel
theorem dL_law_489 : decode cL_law 489 = .ok (.iload 5, 2) := by decide +kernel
theorem dL_law_491 : decode cL_law 491 = .ok (.ifCond .ne 15, 3) := by decide +kernel
theorem dL_law_494 : decode cL_law 494 = .ok (.aload_n 3, 1) := by decide +kernel
theorem dL_law_495 : decode cL_law 495 = .ok (.iconst 0, 1) := by decide +kernel
theorem dL_law_496 : decode cL_law 496 = .ok (.laload, 1) := by decide +kernel
theorem dL_law_497 : decode cL_law 497 = .ok (.iload 6, 2) := by decide +kernel
theorem dL_law_499 : decode cL_law 499 = .ok (.i2l, 1) := by decide +kernel
theorem dL_law_500 : decode cL_law 500 = .ok (.lcmp, 1) := by decide +kernel
theorem dL_law_501 : decode cL_law 501 = .ok (.ifCond .eq 5, 3) := by decide +kernel
theorem dL_law_504 : decode cL_law 504 = .ok (.iconst 0, 1) := by decide +kernel
theorem dL_law_505 : decode cL_law 505 = .ok (.ireturn, 1) := by decide +kernel
theorem dL_law_506 : decode cL_law 506 = .ok (.goto 683, 3) := by decide +kernel
theorem dL_law_509 : decode cL_law 509 = .ok (.aload_n 1, 1) := by decide +kernel
theorem dL_law_510 : decode cL_law 510 = .ok (.aload_n 0, 1) := by decide +kernel
theorem dL_law_511 : decode cL_law 511 = .ok (.iload 4, 2) := by decide +kernel
theorem dL_law_513 : decode cL_law 513 = .ok (.iconst 1, 1) := by decide +kernel
theorem dL_law_514 : decode cL_law 514 = .ok (.iadd, 1) := by decide +kernel
theorem dL_law_515 : decode cL_law 515 = .ok (.iaload, 1) := by decide +kernel
theorem dL_law_516 : decode cL_law 516 = .ok (.aload_n 3, 1) := by decide +kernel
theorem dL_law_517 : decode cL_law 517 = .ok (.invokestatic 91, 3) := by decide +kernel
theorem dL_law_520 : decode cL_law 520 = .ok (.istore 5, 2) := by decide +kernel
theorem dL_law_522 : decode cL_law 522 = .ok (.aload_n 2, 1) := by decide +kernel
theorem dL_law_523 : decode cL_law 523 = .ok (.aload_n 0, 1) := by decide +kernel
theorem dL_law_524 : decode cL_law 524 = .ok (.iload 4, 2) := by decide +kernel
theorem dL_law_526 : decode cL_law 526 = .ok (.iconst 1, 1) := by decide +kernel
theorem dL_law_527 : decode cL_law 527 = .ok (.iadd, 1) := by decide +kernel
theorem dL_law_528 : decode cL_law 528 = .ok (.iaload, 1) := by decide +kernel
theorem dL_law_529 : decode cL_law 529 = .ok (.invokevirtual 93, 3) := by decide +kernel
theorem dL_law_532 : decode cL_law 532 = .ok (.istore 6, 2) := by decide +kernel
theorem dL_law_534 : decode cL_law 534 = .ok (.aload_n 2, 1) := by decide +kernel
theorem dL_law_535 : decode cL_law 535 = .ok (.invokevirtual 72, 3) := by decide +kernel
theorem dL_law_538 : decode cL_law 538 = .ok (.iload 5, 2) := by decide +kernel
theorem dL_law_540 : decode cL_law 540 = .ok (.if_icmp .eq 5, 3) := by decide +kernel
theorem dL_law_543 : decode cL_law 543 = .ok (.iconst 0, 1) := by decide +kernel
theorem dL_law_544 : decode cL_law 544 = .ok (.ireturn, 1) := by decide +kernel
theorem dL_law_545 : decode cL_law 545 = .ok (.iload 5, 2) := by decide +kernel
theorem dL_law_547 : decode cL_law 547 = .ok (.ifCond .ne 15, 3) := by decide +kernel
theorem dL_law_550 : decode cL_law 550 = .ok (.aload_n 3, 1) := by decide +kernel
theorem dL_law_551 : decode cL_law 551 = .ok (.iconst 0, 1) := by decide +kernel
theorem dL_law_552 : decode cL_law 552 = .ok (.laload, 1) := by decide +kernel
theorem dL_law_553 : decode cL_law 553 = .ok (.iload 6, 2) := by decide +kernel
theorem dL_law_555 : decode cL_law 555 = .ok (.i2l, 1) := by decide +kernel
theorem dL_law_556 : decode cL_law 556 = .ok (.lcmp, 1) := by decide +kernel
theorem dL_law_557 : decode cL_law 557 = .ok (.ifCond .eq 5, 3) := by decide +kernel
theorem dL_law_560 : decode cL_law 560 = .ok (.iconst 0, 1) := by decide +kernel
theorem dL_law_561 : decode cL_law 561 = .ok (.ireturn, 1) := by decide +kernel
theorem dL_law_562 : decode cL_law 562 = .ok (.goto 627, 3) := by decide +kernel
theorem dL_law_565 : decode cL_law 565 = .ok (.aload_n 1, 1) := by decide +kernel
theorem dL_law_566 : decode cL_law 566 = .ok (.aload_n 0, 1) := by decide +kernel
theorem dL_law_567 : decode cL_law 567 = .ok (.iload 4, 2) := by decide +kernel
theorem dL_law_569 : decode cL_law 569 = .ok (.iconst 1, 1) := by decide +kernel
theorem dL_law_570 : decode cL_law 570 = .ok (.iadd, 1) := by decide +kernel
theorem dL_law_571 : decode cL_law 571 = .ok (.iaload, 1) := by decide +kernel
theorem dL_law_572 : decode cL_law 572 = .ok (.aload_n 0, 1) := by decide +kernel
theorem dL_law_573 : decode cL_law 573 = .ok (.iload 4, 2) := by decide +kernel
theorem dL_law_575 : decode cL_law 575 = .ok (.iconst 2, 1) := by decide +kernel
theorem dL_law_576 : decode cL_law 576 = .ok (.iadd, 1) := by decide +kernel
theorem dL_law_577 : decode cL_law 577 = .ok (.iaload, 1) := by decide +kernel
theorem dL_law_578 : decode cL_law 578 = .ok (.aload_n 3, 1) := by decide +kernel
theorem dL_law_579 : decode cL_law 579 = .ok (.invokestatic 94, 3) := by decide +kernel
theorem dL_law_582 : decode cL_law 582 = .ok (.istore 5, 2) := by decide +kernel
theorem dL_law_584 : decode cL_law 584 = .ok (.aload_n 2, 1) := by decide +kernel
theorem dL_law_585 : decode cL_law 585 = .ok (.aload_n 0, 1) := by decide +kernel
theorem dL_law_586 : decode cL_law 586 = .ok (.iload 4, 2) := by decide +kernel
theorem dL_law_588 : decode cL_law 588 = .ok (.iconst 1, 1) := by decide +kernel
theorem dL_law_589 : decode cL_law 589 = .ok (.iadd, 1) := by decide +kernel
theorem dL_law_590 : decode cL_law 590 = .ok (.iaload, 1) := by decide +kernel
theorem dL_law_591 : decode cL_law 591 = .ok (.aload_n 0, 1) := by decide +kernel
theorem dL_law_592 : decode cL_law 592 = .ok (.iload 4, 2) := by decide +kernel
theorem dL_law_594 : decode cL_law 594 = .ok (.iconst 2, 1) := by decide +kernel
theorem dL_law_595 : decode cL_law 595 = .ok (.iadd, 1) := by decide +kernel
theorem dL_law_596 : decode cL_law 596 = .ok (.iaload, 1) := by decide +kernel
theorem dL_law_597 : decode cL_law 597 = .ok (.invokevirtual 96, 3) := by decide +kernel
theorem dL_law_600 : decode cL_law 600 = .ok (.istore 6, 2) := by decide +kernel
theorem dL_law_602 : decode cL_law 602 = .ok (.aload_n 2, 1) := by decide +kernel
theorem dL_law_603 : decode cL_law 603 = .ok (.invokevirtual 72, 3) := by decide +kernel
theorem dL_law_606 : decode cL_law 606 = .ok (.iload 5, 2) := by decide +kernel
theorem dL_law_608 : decode cL_law 608 = .ok (.if_icmp .eq 5, 3) := by decide +kernel
theorem dL_law_611 : decode cL_law 611 = .ok (.iconst 0, 1) := by decide +kernel
theorem dL_law_612 : decode cL_law 612 = .ok (.ireturn, 1) := by decide +kernel
theorem dL_law_613 : decode cL_law 613 = .ok (.iload 5, 2) := by decide +kernel
theorem dL_law_615 : decode cL_law 615 = .ok (.ifCond .ne 15, 3) := by decide +kernel
theorem dL_law_618 : decode cL_law 618 = .ok (.aload_n 3, 1) := by decide +kernel
theorem dL_law_619 : decode cL_law 619 = .ok (.iconst 0, 1) := by decide +kernel
theorem dL_law_620 : decode cL_law 620 = .ok (.laload, 1) := by decide +kernel
theorem dL_law_621 : decode cL_law 621 = .ok (.iload 6, 2) := by decide +kernel
theorem dL_law_623 : decode cL_law 623 = .ok (.i2l, 1) := by decide +kernel
theorem dL_law_624 : decode cL_law 624 = .ok (.lcmp, 1) := by decide +kernel
theorem dL_law_625 : decode cL_law 625 = .ok (.ifCond .eq 5, 3) := by decide +kernel
theorem dL_law_628 : decode cL_law 628 = .ok (.iconst 0, 1) := by decide +kernel
theorem dL_law_629 : decode cL_law 629 = .ok (.ireturn, 1) := by decide +kernel
theorem dL_law_630 : decode cL_law 630 = .ok (.goto 559, 3) := by decide +kernel
theorem dL_law_633 : decode cL_law 633 = .ok (.aload_n 1, 1) := by decide +kernel
theorem dL_law_634 : decode cL_law 634 = .ok (.aload_n 0, 1) := by decide +kernel
theorem dL_law_635 : decode cL_law 635 = .ok (.iload 4, 2) := by decide +kernel
theorem dL_law_637 : decode cL_law 637 = .ok (.iconst 1, 1) := by decide +kernel
theorem dL_law_638 : decode cL_law 638 = .ok (.iadd, 1) := by decide +kernel
theorem dL_law_639 : decode cL_law 639 = .ok (.iaload, 1) := by decide +kernel
theorem dL_law_640 : decode cL_law 640 = .ok (.aload_n 0, 1) := by decide +kernel
theorem dL_law_641 : decode cL_law 641 = .ok (.iload 4, 2) := by decide +kernel
theorem dL_law_643 : decode cL_law 643 = .ok (.iconst 2, 1) := by decide +kernel
theorem dL_law_644 : decode cL_law 644 = .ok (.iadd, 1) := by decide +kernel
theorem dL_law_645 : decode cL_law 645 = .ok (.iaload, 1) := by decide +kernel
theorem dL_law_646 : decode cL_law 646 = .ok (.aload_n 0, 1) := by decide +kernel
theorem dL_law_647 : decode cL_law 647 = .ok (.iload 4, 2) := by decide +kernel
theorem dL_law_649 : decode cL_law 649 = .ok (.iconst 3, 1) := by decide +kernel
theorem dL_law_650 : decode cL_law 650 = .ok (.iadd, 1) := by decide +kernel
theorem dL_law_651 : decode cL_law 651 = .ok (.iaload, 1) := by decide +kernel
theorem dL_law_652 : decode cL_law 652 = .ok (.aload_n 3, 1) := by decide +kernel
theorem dL_law_653 : decode cL_law 653 = .ok (.invokestatic 97, 3) := by decide +kernel
theorem dL_law_656 : decode cL_law 656 = .ok (.istore 5, 2) := by decide +kernel
theorem dL_law_658 : decode cL_law 658 = .ok (.aload_n 2, 1) := by decide +kernel
theorem dL_law_659 : decode cL_law 659 = .ok (.aload_n 0, 1) := by decide +kernel
theorem dL_law_660 : decode cL_law 660 = .ok (.iload 4, 2) := by decide +kernel
theorem dL_law_662 : decode cL_law 662 = .ok (.iconst 1, 1) := by decide +kernel
theorem dL_law_663 : decode cL_law 663 = .ok (.iadd, 1) := by decide +kernel
theorem dL_law_664 : decode cL_law 664 = .ok (.iaload, 1) := by decide +kernel
theorem dL_law_665 : decode cL_law 665 = .ok (.aload_n 0, 1) := by decide +kernel
theorem dL_law_666 : decode cL_law 666 = .ok (.iload 4, 2) := by decide +kernel
theorem dL_law_668 : decode cL_law 668 = .ok (.iconst 2, 1) := by decide +kernel
theorem dL_law_669 : decode cL_law 669 = .ok (.iadd, 1) := by decide +kernel
theorem dL_law_670 : decode cL_law 670 = .ok (.iaload, 1) := by decide +kernel
theorem dL_law_671 : decode cL_law 671 = .ok (.aload_n 0, 1) := by decide +kernel
theorem dL_law_672 : decode cL_law 672 = .ok (.iload 4, 2) := by decide +kernel
theorem dL_law_674 : decode cL_law 674 = .ok (.iconst 3, 1) := by decide +kernel
theorem dL_law_675 : decode cL_law 675 = .ok (.iadd, 1) := by decide +kernel
theorem dL_law_676 : decode cL_law 676 = .ok (.iaload, 1) := by decide +kernel
theorem dL_law_677 : decode cL_law 677 = .ok (.invokevirtual 99, 3) := by decide +kernel
theorem dL_law_680 : decode cL_law 680 = .ok (.istore 6, 2) := by decide +kernel
theorem dL_law_682 : decode cL_law 682 = .ok (.aload_n 2, 1) := by decide +kernel
theorem dL_law_683 : decode cL_law 683 = .ok (.invokevirtual 72, 3) := by decide +kernel
theorem dL_law_686 : decode cL_law 686 = .ok (.iload 5, 2) := by decide +kernel
theorem dL_law_688 : decode cL_law 688 = .ok (.if_icmp .eq 5, 3) := by decide +kernel
theorem dL_law_691 : decode cL_law 691 = .ok (.iconst 0, 1) := by decide +kernel
theorem dL_law_692 : decode cL_law 692 = .ok (.ireturn, 1) := by decide +kernel
theorem dL_law_693 : decode cL_law 693 = .ok (.iload 5, 2) := by decide +kernel
theorem dL_law_695 : decode cL_law 695 = .ok (.ifCond .ne 15, 3) := by decide +kernel
theorem dL_law_698 : decode cL_law 698 = .ok (.aload_n 3, 1) := by decide +kernel
theorem dL_law_699 : decode cL_law 699 = .ok (.iconst 0, 1) := by decide +kernel
theorem dL_law_700 : decode cL_law 700 = .ok (.laload, 1) := by decide +kernel
theorem dL_law_701 : decode cL_law 701 = .ok (.iload 6, 2) := by decide +kernel
theorem dL_law_703 : decode cL_law 703 = .ok (.i2l, 1) := by decide +kernel
theorem dL_law_704 : decode cL_law 704 = .ok (.lcmp, 1) := by decide +kernel
theorem dL_law_705 : decode cL_law 705 = .ok (.ifCond .eq 5, 3) := by decide +kernel
theorem dL_law_708 : decode cL_law 708 = .ok (.iconst 0, 1) := by decide +kernel
theorem dL_law_709 : decode cL_law 709 = .ok (.ireturn, 1) := by decide +kernel
theorem dL_law_710 : decode cL_law 710 = .ok (.goto 479, 3) := by decide +kernel
theorem dL_law_713 : decode cL_law 713 = .ok (.aload_n 1, 1) := by decide +kernel
theorem dL_law_714 : decode cL_law 714 = .ok (.aload_n 0, 1) := by decide +kernel
theorem dL_law_715 : decode cL_law 715 = .ok (.iload 4, 2) := by decide +kernel
theorem dL_law_717 : decode cL_law 717 = .ok (.iconst 1, 1) := by decide +kernel
theorem dL_law_718 : decode cL_law 718 = .ok (.iadd, 1) := by decide +kernel
theorem dL_law_719 : decode cL_law 719 = .ok (.iaload, 1) := by decide +kernel
theorem dL_law_720 : decode cL_law 720 = .ok (.aload_n 0, 1) := by decide +kernel
theorem dL_law_721 : decode cL_law 721 = .ok (.iload 4, 2) := by decide +kernel
theorem dL_law_723 : decode cL_law 723 = .ok (.iconst 2, 1) := by decide +kernel
theorem dL_law_724 : decode cL_law 724 = .ok (.iadd, 1) := by decide +kernel
theorem dL_law_725 : decode cL_law 725 = .ok (.iaload, 1) := by decide +kernel
theorem dL_law_726 : decode cL_law 726 = .ok (.aload_n 3, 1) := by decide +kernel
theorem dL_law_727 : decode cL_law 727 = .ok (.invokestatic 100, 3) := by decide +kernel
theorem dL_law_730 : decode cL_law 730 = .ok (.istore 5, 2) := by decide +kernel
theorem dL_law_732 : decode cL_law 732 = .ok (.aload_n 2, 1) := by decide +kernel
theorem dL_law_733 : decode cL_law 733 = .ok (.aload_n 0, 1) := by decide +kernel
theorem dL_law_734 : decode cL_law 734 = .ok (.iload 4, 2) := by decide +kernel
theorem dL_law_736 : decode cL_law 736 = .ok (.iconst 1, 1) := by decide +kernel
theorem dL_law_737 : decode cL_law 737 = .ok (.iadd, 1) := by decide +kernel
theorem dL_law_738 : decode cL_law 738 = .ok (.iaload, 1) := by decide +kernel
theorem dL_law_739 : decode cL_law 739 = .ok (.aload_n 0, 1) := by decide +kernel
theorem dL_law_740 : decode cL_law 740 = .ok (.iload 4, 2) := by decide +kernel
theorem dL_law_742 : decode cL_law 742 = .ok (.iconst 2, 1) := by decide +kernel
theorem dL_law_743 : decode cL_law 743 = .ok (.iadd, 1) := by decide +kernel
theorem dL_law_744 : decode cL_law 744 = .ok (.iaload, 1) := by decide +kernel
theorem dL_law_745 : decode cL_law 745 = .ok (.invokevirtual 102, 3) := by decide +kernel
theorem dL_law_748 : decode cL_law 748 = .ok (.istore 6, 2) := by decide +kernel
theorem dL_law_750 : decode cL_law 750 = .ok (.aload_n 2, 1) := by decide +kernel
theorem dL_law_751 : decode cL_law 751 = .ok (.invokevirtual 72, 3) := by decide +kernel
theorem dL_law_754 : decode cL_law 754 = .ok (.iload 5, 2) := by decide +kernel
theorem dL_law_756 : decode cL_law 756 = .ok (.if_icmp .eq 5, 3) := by decide +kernel
theorem dL_law_759 : decode cL_law 759 = .ok (.iconst 0, 1) := by decide +kernel
theorem dL_law_760 : decode cL_law 760 = .ok (.ireturn, 1) := by decide +kernel
theorem dL_law_761 : decode cL_law 761 = .ok (.iload 5, 2) := by decide +kernel
theorem dL_law_763 : decode cL_law 763 = .ok (.ifCond .ne 15, 3) := by decide +kernel
theorem dL_law_766 : decode cL_law 766 = .ok (.aload_n 3, 1) := by decide +kernel
theorem dL_law_767 : decode cL_law 767 = .ok (.iconst 0, 1) := by decide +kernel
theorem dL_law_768 : decode cL_law 768 = .ok (.laload, 1) := by decide +kernel
theorem dL_law_769 : decode cL_law 769 = .ok (.iload 6, 2) := by decide +kernel
theorem dL_law_771 : decode cL_law 771 = .ok (.i2l, 1) := by decide +kernel
theorem dL_law_772 : decode cL_law 772 = .ok (.lcmp, 1) := by decide +kernel
theorem dL_law_773 : decode cL_law 773 = .ok (.ifCond .eq 5, 3) := by decide +kernel
theorem dL_law_776 : decode cL_law 776 = .ok (.iconst 0, 1) := by decide +kernel
theorem dL_law_777 : decode cL_law 777 = .ok (.ireturn, 1) := by decide +kernel
theorem dL_law_778 : decode cL_law 778 = .ok (.goto 411, 3) := by decide +kernel
theorem dL_law_781 : decode cL_law 781 = .ok (.aload_n 1, 1) := by decide +kernel
theorem dL_law_782 : decode cL_law 782 = .ok (.aload_n 0, 1) := by decide +kernel
theorem dL_law_783 : decode cL_law 783 = .ok (.iload 4, 2) := by decide +kernel
theorem dL_law_785 : decode cL_law 785 = .ok (.iconst 1, 1) := by decide +kernel
theorem dL_law_786 : decode cL_law 786 = .ok (.iadd, 1) := by decide +kernel
theorem dL_law_787 : decode cL_law 787 = .ok (.iaload, 1) := by decide +kernel
theorem dL_law_788 : decode cL_law 788 = .ok (.aload_n 0, 1) := by decide +kernel
theorem dL_law_789 : decode cL_law 789 = .ok (.iload 4, 2) := by decide +kernel
theorem dL_law_791 : decode cL_law 791 = .ok (.iconst 2, 1) := by decide +kernel
theorem dL_law_792 : decode cL_law 792 = .ok (.iadd, 1) := by decide +kernel
theorem dL_law_793 : decode cL_law 793 = .ok (.iaload, 1) := by decide +kernel
theorem dL_law_794 : decode cL_law 794 = .ok (.aload_n 3, 1) := by decide +kernel
theorem dL_law_795 : decode cL_law 795 = .ok (.invokestatic 103, 3) := by decide +kernel
theorem dL_law_798 : decode cL_law 798 = .ok (.istore 5, 2) := by decide +kernel
theorem dL_law_800 : decode cL_law 800 = .ok (.aload_n 2, 1) := by decide +kernel
theorem dL_law_801 : decode cL_law 801 = .ok (.aload_n 0, 1) := by decide +kernel
theorem dL_law_802 : decode cL_law 802 = .ok (.iload 4, 2) := by decide +kernel
theorem dL_law_804 : decode cL_law 804 = .ok (.iconst 1, 1) := by decide +kernel
theorem dL_law_805 : decode cL_law 805 = .ok (.iadd, 1) := by decide +kernel
theorem dL_law_806 : decode cL_law 806 = .ok (.iaload, 1) := by decide +kernel
theorem dL_law_807 : decode cL_law 807 = .ok (.aload_n 0, 1) := by decide +kernel
theorem dL_law_808 : decode cL_law 808 = .ok (.iload 4, 2) := by decide +kernel
theorem dL_law_810 : decode cL_law 810 = .ok (.iconst 2, 1) := by decide +kernel
theorem dL_law_811 : decode cL_law 811 = .ok (.iadd, 1) := by decide +kernel
theorem dL_law_812 : decode cL_law 812 = .ok (.iaload, 1) := by decide +kernel
theorem dL_law_813 : decode cL_law 813 = .ok (.invokevirtual 105, 3) := by decide +kernel
theorem dL_law_816 : decode cL_law 816 = .ok (.istore 6, 2) := by decide +kernel
theorem dL_law_818 : decode cL_law 818 = .ok (.aload_n 2, 1) := by decide +kernel
theorem dL_law_819 : decode cL_law 819 = .ok (.invokevirtual 72, 3) := by decide +kernel
theorem dL_law_822 : decode cL_law 822 = .ok (.iload 5, 2) := by decide +kernel
theorem dL_law_824 : decode cL_law 824 = .ok (.if_icmp .eq 5, 3) := by decide +kernel
theorem dL_law_827 : decode cL_law 827 = .ok (.iconst 0, 1) := by decide +kernel
theorem dL_law_828 : decode cL_law 828 = .ok (.ireturn, 1) := by decide +kernel
theorem dL_law_829 : decode cL_law 829 = .ok (.iload 5, 2) := by decide +kernel
theorem dL_law_831 : decode cL_law 831 = .ok (.ifCond .ne 15, 3) := by decide +kernel
theorem dL_law_834 : decode cL_law 834 = .ok (.aload_n 3, 1) := by decide +kernel
theorem dL_law_835 : decode cL_law 835 = .ok (.iconst 0, 1) := by decide +kernel
theorem dL_law_836 : decode cL_law 836 = .ok (.laload, 1) := by decide +kernel
theorem dL_law_837 : decode cL_law 837 = .ok (.iload 6, 2) := by decide +kernel
theorem dL_law_839 : decode cL_law 839 = .ok (.i2l, 1) := by decide +kernel
theorem dL_law_840 : decode cL_law 840 = .ok (.lcmp, 1) := by decide +kernel
theorem dL_law_841 : decode cL_law 841 = .ok (.ifCond .eq 5, 3) := by decide +kernel
theorem dL_law_844 : decode cL_law 844 = .ok (.iconst 0, 1) := by decide +kernel
theorem dL_law_845 : decode cL_law 845 = .ok (.ireturn, 1) := by decide +kernel
theorem dL_law_846 : decode cL_law 846 = .ok (.goto 343, 3) := by decide +kernel
theorem dL_law_849 : decode cL_law 849 = .ok (.aload_n 1, 1) := by decide +kernel
theorem dL_law_850 : decode cL_law 850 = .ok (.aload_n 0, 1) := by decide +kernel
theorem dL_law_851 : decode cL_law 851 = .ok (.iload 4, 2) := by decide +kernel
theorem dL_law_853 : decode cL_law 853 = .ok (.iconst 1, 1) := by decide +kernel
theorem dL_law_854 : decode cL_law 854 = .ok (.iadd, 1) := by decide +kernel
theorem dL_law_855 : decode cL_law 855 = .ok (.iaload, 1) := by decide +kernel
theorem dL_law_856 : decode cL_law 856 = .ok (.aload_n 0, 1) := by decide +kernel
theorem dL_law_857 : decode cL_law 857 = .ok (.iload 4, 2) := by decide +kernel
theorem dL_law_859 : decode cL_law 859 = .ok (.iconst 2, 1) := by decide +kernel
theorem dL_law_860 : decode cL_law 860 = .ok (.iadd, 1) := by decide +kernel
theorem dL_law_861 : decode cL_law 861 = .ok (.iaload, 1) := by decide +kernel
theorem dL_law_862 : decode cL_law 862 = .ok (.aload_n 3, 1) := by decide +kernel
theorem dL_law_863 : decode cL_law 863 = .ok (.invokestatic 106, 3) := by decide +kernel
theorem dL_law_866 : decode cL_law 866 = .ok (.istore 5, 2) := by decide +kernel
theorem dL_law_868 : decode cL_law 868 = .ok (.aload_n 2, 1) := by decide +kernel
theorem dL_law_869 : decode cL_law 869 = .ok (.aload_n 0, 1) := by decide +kernel
theorem dL_law_870 : decode cL_law 870 = .ok (.iload 4, 2) := by decide +kernel
theorem dL_law_872 : decode cL_law 872 = .ok (.iconst 1, 1) := by decide +kernel
theorem dL_law_873 : decode cL_law 873 = .ok (.iadd, 1) := by decide +kernel
theorem dL_law_874 : decode cL_law 874 = .ok (.iaload, 1) := by decide +kernel
theorem dL_law_875 : decode cL_law 875 = .ok (.aload_n 0, 1) := by decide +kernel
theorem dL_law_876 : decode cL_law 876 = .ok (.iload 4, 2) := by decide +kernel
theorem dL_law_878 : decode cL_law 878 = .ok (.iconst 2, 1) := by decide +kernel
theorem dL_law_879 : decode cL_law 879 = .ok (.iadd, 1) := by decide +kernel
theorem dL_law_880 : decode cL_law 880 = .ok (.iaload, 1) := by decide +kernel
theorem dL_law_881 : decode cL_law 881 = .ok (.invokevirtual 108, 3) := by decide +kernel
theorem dL_law_884 : decode cL_law 884 = .ok (.istore 6, 2) := by decide +kernel
theorem dL_law_886 : decode cL_law 886 = .ok (.aload_n 2, 1) := by decide +kernel
theorem dL_law_887 : decode cL_law 887 = .ok (.invokevirtual 72, 3) := by decide +kernel
theorem dL_law_890 : decode cL_law 890 = .ok (.iload 5, 2) := by decide +kernel
theorem dL_law_892 : decode cL_law 892 = .ok (.if_icmp .eq 5, 3) := by decide +kernel
theorem dL_law_895 : decode cL_law 895 = .ok (.iconst 0, 1) := by decide +kernel
theorem dL_law_896 : decode cL_law 896 = .ok (.ireturn, 1) := by decide +kernel
theorem dL_law_897 : decode cL_law 897 = .ok (.iload 5, 2) := by decide +kernel
theorem dL_law_899 : decode cL_law 899 = .ok (.ifCond .ne 15, 3) := by decide +kernel
theorem dL_law_902 : decode cL_law 902 = .ok (.aload_n 3, 1) := by decide +kernel
theorem dL_law_903 : decode cL_law 903 = .ok (.iconst 0, 1) := by decide +kernel
theorem dL_law_904 : decode cL_law 904 = .ok (.laload, 1) := by decide +kernel
theorem dL_law_905 : decode cL_law 905 = .ok (.iload 6, 2) := by decide +kernel
theorem dL_law_907 : decode cL_law 907 = .ok (.i2l, 1) := by decide +kernel
theorem dL_law_908 : decode cL_law 908 = .ok (.lcmp, 1) := by decide +kernel
theorem dL_law_909 : decode cL_law 909 = .ok (.ifCond .eq 5, 3) := by decide +kernel
theorem dL_law_912 : decode cL_law 912 = .ok (.iconst 0, 1) := by decide +kernel
theorem dL_law_913 : decode cL_law 913 = .ok (.ireturn, 1) := by decide +kernel
theorem dL_law_914 : decode cL_law 914 = .ok (.goto 275, 3) := by decide +kernel
theorem dL_law_917 : decode cL_law 917 = .ok (.aload_n 1, 1) := by decide +kernel
theorem dL_law_918 : decode cL_law 918 = .ok (.aload_n 0, 1) := by decide +kernel
theorem dL_law_919 : decode cL_law 919 = .ok (.iload 4, 2) := by decide +kernel
theorem dL_law_921 : decode cL_law 921 = .ok (.iconst 1, 1) := by decide +kernel
theorem dL_law_922 : decode cL_law 922 = .ok (.iadd, 1) := by decide +kernel
theorem dL_law_923 : decode cL_law 923 = .ok (.iaload, 1) := by decide +kernel
theorem dL_law_924 : decode cL_law 924 = .ok (.aload_n 3, 1) := by decide +kernel
theorem dL_law_925 : decode cL_law 925 = .ok (.invokestatic 109, 3) := by decide +kernel
theorem dL_law_928 : decode cL_law 928 = .ok (.istore 5, 2) := by decide +kernel
theorem dL_law_930 : decode cL_law 930 = .ok (.aload_n 2, 1) := by decide +kernel
theorem dL_law_931 : decode cL_law 931 = .ok (.aload_n 0, 1) := by decide +kernel
theorem dL_law_932 : decode cL_law 932 = .ok (.iload 4, 2) := by decide +kernel
theorem dL_law_934 : decode cL_law 934 = .ok (.iconst 1, 1) := by decide +kernel
theorem dL_law_935 : decode cL_law 935 = .ok (.iadd, 1) := by decide +kernel
theorem dL_law_936 : decode cL_law 936 = .ok (.iaload, 1) := by decide +kernel
theorem dL_law_937 : decode cL_law 937 = .ok (.invokevirtual 111, 3) := by decide +kernel
theorem dL_law_940 : decode cL_law 940 = .ok (.istore 6, 2) := by decide +kernel
theorem dL_law_942 : decode cL_law 942 = .ok (.aload_n 2, 1) := by decide +kernel
theorem dL_law_943 : decode cL_law 943 = .ok (.invokevirtual 72, 3) := by decide +kernel
theorem dL_law_946 : decode cL_law 946 = .ok (.iload 5, 2) := by decide +kernel
theorem dL_law_948 : decode cL_law 948 = .ok (.if_icmp .eq 5, 3) := by decide +kernel
theorem dL_law_951 : decode cL_law 951 = .ok (.iconst 0, 1) := by decide +kernel
theorem dL_law_952 : decode cL_law 952 = .ok (.ireturn, 1) := by decide +kernel
theorem dL_law_953 : decode cL_law 953 = .ok (.iload 5, 2) := by decide +kernel
theorem dL_law_955 : decode cL_law 955 = .ok (.ifCond .ne 15, 3) := by decide +kernel
theorem dL_law_958 : decode cL_law 958 = .ok (.aload_n 3, 1) := by decide +kernel
theorem dL_law_959 : decode cL_law 959 = .ok (.iconst 0, 1) := by decide +kernel
theorem dL_law_960 : decode cL_law 960 = .ok (.laload, 1) := by decide +kernel
theorem dL_law_961 : decode cL_law 961 = .ok (.iload 6, 2) := by decide +kernel
theorem dL_law_963 : decode cL_law 963 = .ok (.i2l, 1) := by decide +kernel
theorem dL_law_964 : decode cL_law 964 = .ok (.lcmp, 1) := by decide +kernel
theorem dL_law_965 : decode cL_law 965 = .ok (.ifCond .eq 5, 3) := by decide +kernel
theorem dL_law_968 : decode cL_law 968 = .ok (.iconst 0, 1) := by decide +kernel
theorem dL_law_969 : decode cL_law 969 = .ok (.ireturn, 1) := by decide +kernel
theorem dL_law_970 : decode cL_law 970 = .ok (.goto 219, 3) := by decide +kernel
theorem dL_law_973 : decode cL_law 973 = .ok (.aload_n 1, 1) := by decide +kernel
theorem dL_law_974 : decode cL_law 974 = .ok (.aload_n 0, 1) := by decide +kernel
theorem dL_law_975 : decode cL_law 975 = .ok (.iload 4, 2) := by decide +kernel
theorem dL_law_977 : decode cL_law 977 = .ok (.iconst 1, 1) := by decide +kernel
theorem dL_law_978 : decode cL_law 978 = .ok (.iadd, 1) := by decide +kernel
theorem dL_law_979 : decode cL_law 979 = .ok (.iaload, 1) := by decide +kernel
theorem dL_law_980 : decode cL_law 980 = .ok (.aload_n 0, 1) := by decide +kernel
theorem dL_law_981 : decode cL_law 981 = .ok (.iload 4, 2) := by decide +kernel
theorem dL_law_983 : decode cL_law 983 = .ok (.iconst 2, 1) := by decide +kernel
theorem dL_law_984 : decode cL_law 984 = .ok (.iadd, 1) := by decide +kernel
theorem dL_law_985 : decode cL_law 985 = .ok (.iaload, 1) := by decide +kernel
theorem dL_law_986 : decode cL_law 986 = .ok (.aload_n 3, 1) := by decide +kernel
theorem dL_law_987 : decode cL_law 987 = .ok (.invokestatic 112, 3) := by decide +kernel
theorem dL_law_990 : decode cL_law 990 = .ok (.istore 5, 2) := by decide +kernel
theorem dL_law_992 : decode cL_law 992 = .ok (.aload_n 2, 1) := by decide +kernel
theorem dL_law_993 : decode cL_law 993 = .ok (.aload_n 0, 1) := by decide +kernel
theorem dL_law_994 : decode cL_law 994 = .ok (.iload 4, 2) := by decide +kernel
theorem dL_law_996 : decode cL_law 996 = .ok (.iconst 1, 1) := by decide +kernel
theorem dL_law_997 : decode cL_law 997 = .ok (.iadd, 1) := by decide +kernel
theorem dL_law_998 : decode cL_law 998 = .ok (.iaload, 1) := by decide +kernel
theorem dL_law_999 : decode cL_law 999 = .ok (.aload_n 0, 1) := by decide +kernel
theorem dL_law_1000 : decode cL_law 1000 = .ok (.iload 4, 2) := by decide +kernel
theorem dL_law_1002 : decode cL_law 1002 = .ok (.iconst 2, 1) := by decide +kernel
theorem dL_law_1003 : decode cL_law 1003 = .ok (.iadd, 1) := by decide +kernel
theorem dL_law_1004 : decode cL_law 1004 = .ok (.iaload, 1) := by decide +kernel
theorem dL_law_1005 : decode cL_law 1005 = .ok (.invokevirtual 114, 3) := by decide +kernel
theorem dL_law_1008 : decode cL_law 1008 = .ok (.istore 6, 2) := by decide +kernel
theorem dL_law_1010 : decode cL_law 1010 = .ok (.aload_n 2, 1) := by decide +kernel
theorem dL_law_1011 : decode cL_law 1011 = .ok (.invokevirtual 72, 3) := by decide +kernel
theorem dL_law_1014 : decode cL_law 1014 = .ok (.iload 5, 2) := by decide +kernel
theorem dL_law_1016 : decode cL_law 1016 = .ok (.if_icmp .eq 5, 3) := by decide +kernel
theorem dL_law_1019 : decode cL_law 1019 = .ok (.iconst 0, 1) := by decide +kernel
theorem dL_law_1020 : decode cL_law 1020 = .ok (.ireturn, 1) := by decide +kernel
theorem dL_law_1021 : decode cL_law 1021 = .ok (.iload 5, 2) := by decide +kernel
theorem dL_law_1023 : decode cL_law 1023 = .ok (.ifCond .ne 15, 3) := by decide +kernel
theorem dL_law_1026 : decode cL_law 1026 = .ok (.aload_n 3, 1) := by decide +kernel
theorem dL_law_1027 : decode cL_law 1027 = .ok (.iconst 0, 1) := by decide +kernel
theorem dL_law_1028 : decode cL_law 1028 = .ok (.laload, 1) := by decide +kernel
theorem dL_law_1029 : decode cL_law 1029 = .ok (.iload 6, 2) := by decide +kernel
theorem dL_law_1031 : decode cL_law 1031 = .ok (.i2l, 1) := by decide +kernel
theorem dL_law_1032 : decode cL_law 1032 = .ok (.lcmp, 1) := by decide +kernel
theorem dL_law_1033 : decode cL_law 1033 = .ok (.ifCond .eq 5, 3) := by decide +kernel
theorem dL_law_1036 : decode cL_law 1036 = .ok (.iconst 0, 1) := by decide +kernel
theorem dL_law_1037 : decode cL_law 1037 = .ok (.ireturn, 1) := by decide +kernel
theorem dL_law_1038 : decode cL_law 1038 = .ok (.goto 151, 3) := by decide +kernel
theorem dL_law_1041 : decode cL_law 1041 = .ok (.aload_n 1, 1) := by decide +kernel
theorem dL_law_1042 : decode cL_law 1042 = .ok (.aload_n 0, 1) := by decide +kernel
theorem dL_law_1043 : decode cL_law 1043 = .ok (.iload 4, 2) := by decide +kernel
theorem dL_law_1045 : decode cL_law 1045 = .ok (.iconst 1, 1) := by decide +kernel
theorem dL_law_1046 : decode cL_law 1046 = .ok (.iadd, 1) := by decide +kernel
theorem dL_law_1047 : decode cL_law 1047 = .ok (.iaload, 1) := by decide +kernel
theorem dL_law_1048 : decode cL_law 1048 = .ok (.aload_n 0, 1) := by decide +kernel
theorem dL_law_1049 : decode cL_law 1049 = .ok (.iload 4, 2) := by decide +kernel
theorem dL_law_1051 : decode cL_law 1051 = .ok (.iconst 2, 1) := by decide +kernel
theorem dL_law_1052 : decode cL_law 1052 = .ok (.iadd, 1) := by decide +kernel
theorem dL_law_1053 : decode cL_law 1053 = .ok (.iaload, 1) := by decide +kernel
theorem dL_law_1054 : decode cL_law 1054 = .ok (.aload_n 0, 1) := by decide +kernel
theorem dL_law_1055 : decode cL_law 1055 = .ok (.iload 4, 2) := by decide +kernel
theorem dL_law_1057 : decode cL_law 1057 = .ok (.iconst 3, 1) := by decide +kernel
theorem dL_law_1058 : decode cL_law 1058 = .ok (.iadd, 1) := by decide +kernel
theorem dL_law_1059 : decode cL_law 1059 = .ok (.iaload, 1) := by decide +kernel
theorem dL_law_1060 : decode cL_law 1060 = .ok (.aload_n 3, 1) := by decide +kernel
theorem dL_law_1061 : decode cL_law 1061 = .ok (.invokestatic 115, 3) := by decide +kernel
theorem dL_law_1064 : decode cL_law 1064 = .ok (.istore 5, 2) := by decide +kernel
theorem dL_law_1066 : decode cL_law 1066 = .ok (.aload_n 2, 1) := by decide +kernel
theorem dL_law_1067 : decode cL_law 1067 = .ok (.aload_n 0, 1) := by decide +kernel
theorem dL_law_1068 : decode cL_law 1068 = .ok (.iload 4, 2) := by decide +kernel
theorem dL_law_1070 : decode cL_law 1070 = .ok (.iconst 1, 1) := by decide +kernel
theorem dL_law_1071 : decode cL_law 1071 = .ok (.iadd, 1) := by decide +kernel
theorem dL_law_1072 : decode cL_law 1072 = .ok (.iaload, 1) := by decide +kernel
theorem dL_law_1073 : decode cL_law 1073 = .ok (.aload_n 0, 1) := by decide +kernel
theorem dL_law_1074 : decode cL_law 1074 = .ok (.iload 4, 2) := by decide +kernel
theorem dL_law_1076 : decode cL_law 1076 = .ok (.iconst 2, 1) := by decide +kernel
theorem dL_law_1077 : decode cL_law 1077 = .ok (.iadd, 1) := by decide +kernel
theorem dL_law_1078 : decode cL_law 1078 = .ok (.iaload, 1) := by decide +kernel
theorem dL_law_1079 : decode cL_law 1079 = .ok (.aload_n 0, 1) := by decide +kernel
theorem dL_law_1080 : decode cL_law 1080 = .ok (.iload 4, 2) := by decide +kernel
theorem dL_law_1082 : decode cL_law 1082 = .ok (.iconst 3, 1) := by decide +kernel
theorem dL_law_1083 : decode cL_law 1083 = .ok (.iadd, 1) := by decide +kernel
theorem dL_law_1084 : decode cL_law 1084 = .ok (.iaload, 1) := by decide +kernel
theorem dL_law_1085 : decode cL_law 1085 = .ok (.invokevirtual 117, 3) := by decide +kernel
theorem dL_law_1088 : decode cL_law 1088 = .ok (.istore 6, 2) := by decide +kernel
theorem dL_law_1090 : decode cL_law 1090 = .ok (.aload_n 2, 1) := by decide +kernel
theorem dL_law_1091 : decode cL_law 1091 = .ok (.invokevirtual 72, 3) := by decide +kernel
theorem dL_law_1094 : decode cL_law 1094 = .ok (.iload 5, 2) := by decide +kernel
theorem dL_law_1096 : decode cL_law 1096 = .ok (.if_icmp .eq 5, 3) := by decide +kernel
theorem dL_law_1099 : decode cL_law 1099 = .ok (.iconst 0, 1) := by decide +kernel
theorem dL_law_1100 : decode cL_law 1100 = .ok (.ireturn, 1) := by decide +kernel
theorem dL_law_1101 : decode cL_law 1101 = .ok (.iload 5, 2) := by decide +kernel
theorem dL_law_1103 : decode cL_law 1103 = .ok (.ifCond .ne 15, 3) := by decide +kernel
theorem dL_law_1106 : decode cL_law 1106 = .ok (.aload_n 3, 1) := by decide +kernel
theorem dL_law_1107 : decode cL_law 1107 = .ok (.iconst 0, 1) := by decide +kernel
theorem dL_law_1108 : decode cL_law 1108 = .ok (.laload, 1) := by decide +kernel
theorem dL_law_1109 : decode cL_law 1109 = .ok (.iload 6, 2) := by decide +kernel
theorem dL_law_1111 : decode cL_law 1111 = .ok (.i2l, 1) := by decide +kernel
theorem dL_law_1112 : decode cL_law 1112 = .ok (.lcmp, 1) := by decide +kernel
theorem dL_law_1113 : decode cL_law 1113 = .ok (.ifCond .eq 5, 3) := by decide +kernel
theorem dL_law_1116 : decode cL_law 1116 = .ok (.iconst 0, 1) := by decide +kernel
theorem dL_law_1117 : decode cL_law 1117 = .ok (.ireturn, 1) := by decide +kernel
theorem dL_law_1118 : decode cL_law 1118 = .ok (.goto 71, 3) := by decide +kernel
theorem dL_law_1121 : decode cL_law 1121 = .ok (.aload_n 1, 1) := by decide +kernel
theorem dL_law_1122 : decode cL_law 1122 = .ok (.invokevirtual 118, 3) := by decide +kernel
theorem dL_law_1125 : decode cL_law 1125 = .ok (.aload_n 2, 1) := by decide +kernel
theorem dL_law_1126 : decode cL_law 1126 = .ok (.invokevirtual 121, 3) := by decide +kernel
theorem dL_law_1129 : decode cL_law 1129 = .ok (.if_icmp .eq 60, 3) := by decide +kernel
theorem dL_law_1132 : decode cL_law 1132 = .ok (.iconst 0, 1) := by decide +kernel
theorem dL_law_1133 : decode cL_law 1133 = .ok (.ireturn, 1) := by decide +kernel
theorem dL_law_1134 : decode cL_law 1134 = .ok (.aload_n 1, 1) := by decide +kernel
theorem dL_law_1135 : decode cL_law 1135 = .ok (.invokevirtual 122, 3) := by decide +kernel
theorem dL_law_1138 : decode cL_law 1138 = .ok (.dstore 5, 2) := by decide +kernel
theorem dL_law_1140 : decode cL_law 1140 = .ok (.aload_n 2, 1) := by decide +kernel
theorem dL_law_1141 : decode cL_law 1141 = .ok (.invokevirtual 126, 3) := by decide +kernel
theorem dL_law_1144 : decode cL_law 1144 = .ok (.dstore 7, 2) := by decide +kernel
theorem dL_law_1146 : decode cL_law 1146 = .ok (.dload 5, 2) := by decide +kernel
theorem dL_law_1148 : decode cL_law 1148 = .ok (.dload 7, 2) := by decide +kernel
theorem dL_law_1150 : decode cL_law 1150 = .ok (.dcmp .l, 1) := by decide +kernel
theorem dL_law_1151 : decode cL_law 1151 = .ok (.ifCond .eq 21, 3) := by decide +kernel
theorem dL_law_1154 : decode cL_law 1154 = .ok (.dload 5, 2) := by decide +kernel
theorem dL_law_1156 : decode cL_law 1156 = .ok (.dload 5, 2) := by decide +kernel
theorem dL_law_1158 : decode cL_law 1158 = .ok (.dcmp .l, 1) := by decide +kernel
theorem dL_law_1159 : decode cL_law 1159 = .ok (.ifCond .eq 11, 3) := by decide +kernel
theorem dL_law_1162 : decode cL_law 1162 = .ok (.dload 7, 2) := by decide +kernel
theorem dL_law_1164 : decode cL_law 1164 = .ok (.dload 7, 2) := by decide +kernel
theorem dL_law_1166 : decode cL_law 1166 = .ok (.dcmp .l, 1) := by decide +kernel
theorem dL_law_1167 : decode cL_law 1167 = .ok (.ifCond .ne 5, 3) := by decide +kernel
theorem dL_law_1170 : decode cL_law 1170 = .ok (.iconst 0, 1) := by decide +kernel
end
section
theorem dL_law_1171 : decode cL_law 1171 = .ok (.ireturn, 1) := by decide +kernel
theorem dL_law_1172 : decode cL_law 1172 = .ok (.goto 17, 3) := by decide +kernel
theorem dL_law_1175 : decode cL_law 1175 = .ok (.aload_n 1, 1) := by decide +kernel
theorem dL_law_1176 : decode cL_law 1176 = .ok (.invokevirtual 127, 3) := by decide +kernel
theorem dL_law_1179 : decode cL_law 1179 = .ok (.aload_n 2, 1) := by decide +kernel
theorem dL_law_1180 : decode cL_law 1180 = .ok (.invokevirtual 131, 3) := by decide +kernel
theorem dL_law_1183 : decode cL_law 1183 = .ok (.lcmp, 1) := by decide +kernel
theorem dL_law_1184 : decode cL_law 1184 = .ok (.ifCond .eq 5, 3) := by decide +kernel
theorem dL_law_1187 : decode cL_law 1187 = .ok (.iconst 0, 1) := by decide +kernel
theorem dL_law_1188 : decode cL_law 1188 = .ok (.ireturn, 1) := by decide +kernel
theorem dL_law_1189 : decode cL_law 1189 = .ok (.iinc 4 7, 3) := by decide +kernel
theorem dL_law_1192 : decode cL_law 1192 = .ok (.goto (-1169), 3) := by decide +kernel
theorem dL_law_1195 : decode cL_law 1195 = .ok (.iconst 1, 1) := by decide +kernel
theorem dL_law_1196 : decode cL_law 1196 = .ok (.ireturn, 1) := by decide +kernel
end
section
/-! THE ABSTRACT HEAP: which cells of the machine's heap a walk speaks of, and what they hold -/
abbrev zC : Type := (Nat × vp_A) ⊕ ((Nat × List Value) ⊕ Unit)
abbrev zH : Type := Nat → Option zC
abbrev zG : Type := va_G × (Nat → ClassId)
/-- how a method ends: thrown (the class, the heap), or returned (the answer, the heap, its size) -/
abbrev zV : Type := (String × zH) ⊕ (Option Value × zH × Nat)
def z_up (h : zH) (a : Nat) (c : zC) : zH := fun q => if q = a then some c else h q
abbrev zI (n : Nat) (f : Nat → Int32) : zC := .inl (0, n, .inl f)
abbrev zQ (n : Nat) (f : Nat → Option Nat) : zC := .inl (1, n, .inr (.inr (.inr (.inr f))))
abbrev zL (n : Nat) (f : Nat → Int64) : zC := .inl (2, n, .inr (.inl f))
abbrev zO (ci : Nat) (fs : List Value) : zC := .inr (.inl (ci, fs))
abbrev zE : zC := .inr (.inr ())
/-- a cell of the world for the kit's rows -/
def z_tr (G : zG) : zC → Option va_E
  | .inl a => some (.inl (G.2 a.1, a.2))
  | .inr (.inl o) => some (.inr o)
  | .inr (.inr _) => none
def z_at (G : zG) (lo : Nat) (U : State) (H : Heap) (q : Nat) (c : zC) : Prop :=
  (∀ e, z_tr G c = some e → lo ≤ q ∧ va_at G.1 vwCl (q, e) H) ∧ (z_tr G c = none → va_T (.object "java/lang/Object") q 0 (fun _ => .null) (fun z : Nat => lo ≤ z) U H)
def z_hp (G : zG) (lo : Nat) (U : State) (h : zH) (H : Heap) : Prop := ∀ (q : Nat) (c : zC), h q = some c → z_at G lo U H q c
abbrev z_tys (G : zG) : List (ClassId × FieldType) := [(G.2 0, .int), (G.2 1, .object "java/lang/Object"), (G.2 2, .long)]
def z_K (G : zG) (U : State) : Prop := va_K G.1 vwCl (z_tys G) U
def z_Z (lo t0 : Nat) (U : State) (H : Heap) : Prop :=
  va_Z "java/util/ArrayList" "DEFAULTCAPACITY_EMPTY_ELEMENTDATA" "[Ljava/lang/Object;" (.ref t0) (fun z : Nat => lo ≤ z) U H ∧
  vx_Zq Bundle.tN "UNASSIGNED_STACK" Bundle.steD (fun z : Nat => lo ≤ z) U H ∧ vx_Zq Bundle.tN "SUPPRESSED_SENTINEL" Bundle.listD (fun z : Nat => lo ≤ z) U H
/-- words that are not among the good ones: casts -/
abbrev z_ws : List Cond := [.castable RX0 "java/lang/Object", .castable RX3 "java/lang/Object",
  .castable "java/lang/IllegalArgumentException" "java/lang/IllegalArgumentException", .castable "java/lang/IndexOutOfBoundsException" "java/lang/IndexOutOfBoundsException", .castable "java/lang/IllegalStateException" "java/lang/IllegalStateException"]
/-- the texts of the class's exceptions -/
abbrev z_ss : List (String × Nat × String) := [(RX4, 115, "there are 8 stalls"), (RX4, 121, "a stall is there"), (RX4, 180, "column is not 0 to 23"), (RX4, 255, "there is no such stall"), (RX4, 267, "x or y is not 0 to 23"), (RX4, 269, "w or h is not 1 to 24"), (RX4, 271, "some cell of it is not in the square"), (RX4, 273, "drops is not 1 to 20"), (RX4, 275, "there is no such what"), (RX4, 52, "level is not 1 to 9"), (RX4, 57, "side is not 0 to 3"), (RX4, 69, "there are 10 awnings"), (RX1, 48, "there is no such awning")]
/-- .. and what the exceptions' constructors are declared to be -/
abbrev z_ds : List Cond := [.declares ⟨"java/lang/RuntimeException", "<init>", "(Ljava/lang/String;)V"⟩, .declares ⟨"java/lang/Exception", "<init>", "(Ljava/lang/String;)V"⟩, .declares ⟨"java/lang/Throwable", "<init>", "(Ljava/lang/String;)V"⟩]
def z_T (U : State) : Prop :=
  (∀ w ∈ z_ws, va_Nw w U) ∧ va_Nw (.methodLinkNest RX1 85 yX4_isCell RX4) U ∧ va_Nw (.methodLinkNest RX2 40 yX4_isCell RX4) U ∧ va_AO "java/lang/Object" U ∧ (∀ q ∈ z_ss, ∃ a, vk_R q.1 q.2.1 q.2.2 a U) ∧ ∀ w ∈ z_ds, va_Nw w U
theorem z_ws_castable : ∀ w ∈ z_ws, ∃ C T, w = .castable C T := by
  intro w hw
  simp only [z_ws, List.mem_cons, List.not_mem_nil, or_false] at hw
  rcases hw with rfl | rfl | rfl | rfl | rfl <;> exact ⟨_, _, rfl⟩
theorem z_ds_declares : ∀ w ∈ z_ds, ∃ y, w = .declares y := by
  intro w hw
  simp only [z_ds, List.mem_cons, List.not_mem_nil, or_false] at hw
  rcases hw with rfl | rfl | rfl <;> exact ⟨_, rfl⟩
theorem z_T.warm {s U : State} (hW : s.WarmedH U.vm) (h : z_T s) : z_T U := by
  obtain ⟨h1, h2, h3, h4, h5, h6⟩ := h
  refine ⟨fun w hw => ?_, va_Nw.warmM hW h2, va_Nw.warmM hW h3, va_AO.moved hW.alike h4, fun q hq => ?_, fun w hw => ?_⟩
  · obtain ⟨C, T, rfl⟩ := z_ws_castable w hw
    exact va_Nw.warmC hW (h1 _ hw)
  · obtain ⟨a, ha⟩ := h5 q hq
    exact ⟨a, vk_R.warm hW ha⟩
  · obtain ⟨y, rfl⟩ := z_ds_declares w hw
    exact va_Nw.warmD hW (h6 _ hw)
theorem z_T.same {s U : State} (hv : s.vm = U.vm) (h : z_T s) : z_T U := by
  obtain ⟨h1, h2, h3, h4, h5, h6⟩ := h
  refine ⟨fun w hw => ?_, va_Nw.same rfl hv h2, va_Nw.same rfl hv h3, ?_, fun q hq => ?_, fun w hw => ?_⟩
  · obtain ⟨C, T, rfl⟩ := z_ws_castable w hw
    exact va_Nw.same rfl hv (h1 _ hw)
  · exact va_AO.moved (by rw [← hv]; exact Vm.Alike.refl _) h4
  · obtain ⟨a, ha⟩ := h5 q hq
    exact ⟨a, vk_R.same hv.symm ha⟩
  · obtain ⟨y, rfl⟩ := z_ds_declares w hw
    exact va_Nw.same rfl hv (h6 _ hw)
theorem z_Z.moved {lo t0 : Nat} {u U : State} {H : Heap} (hvm : u.vm.Alike U.vm) (h : z_Z lo t0 u H) : z_Z lo t0 U H := ⟨va_Z.moved hvm h.1, vx_Zq.moved hvm h.2.1, vx_Zq.moved hvm h.2.2⟩
theorem z_Z.kept {lo t0 : Nat} {U : State} {H H1 : Heap} (h : z_Z lo t0 U H) (hq : ∀ a : Nat, a < H.size → ¬ lo ≤ a → H1[a]? = H[a]?) : z_Z lo t0 U H1 := ⟨va_Z.kept h.1 hq, vx_Zq.kept h.2.1 hq, vx_Zq.kept h.2.2 hq⟩
theorem z_at.moved {G : zG} {lo : Nat} {u U : State} {H : Heap} {q : Nat} {c : zC} (hvm : u.vm.Alike U.vm) (h : z_at G lo u H q c) : z_at G lo U H q c := ⟨h.1, fun e => va_T.moved hvm (h.2 e)⟩
theorem z_hp.moved {G : zG} {lo : Nat} {u U : State} {h : zH} {H : Heap} (hvm : u.vm.Alike U.vm) (hh : z_hp G lo u h H) : z_hp G lo U h H := fun q c hq => (hh q c hq).moved hvm
def z_U (G : zG) (lo t0 : Nat) (h : zH) (nx : Nat) (U : State) : Prop := U.heap.size = nx ∧ lo ≤ nx ∧ z_K G U ∧ z_Z lo t0 U U.heap ∧ z_T U ∧ z_hp G lo U h U.heap
theorem z_blind {G : zG} {lo t0 : Nat} {h : zH} {nx : Nat} {av : List Value} : FrameBlind (va_Pc av (z_U G lo t0 h nx)) := by
  intro a U g mk ⟨h0, h1, h2, h3, h4, h5, h6⟩
  exact ⟨h0, h1, h2, va_K.moved (u := U) (U := U.calling g mk a) (Vm.Alike.refl U.vm) h3, z_Z.moved (u := U) (U := U.calling g mk a) (Vm.Alike.refl U.vm) h4, z_T.same (s := U) (U := U.calling g mk a) rfl h5, z_hp.moved (u := U) (U := U.calling g mk a) (Vm.Alike.refl U.vm) h6⟩
def z_qn (G : zG) (lo : Nat) (oo : zV) : Array Value → State → Outcome → State → Prop := fun _ st oc t => ∃ (v : Option Value) (h1 : zH) (n1 : Nat), oo = .inr (v, h1, n1) ∧ oc = .returned v ∧ t.heap.size = n1 ∧ z_hp G lo t h1 t.heap ∧ va_F (fun z : Nat => lo ≤ z) st t
def z_qx (G : zG) (lo : Nat) (oo : zV) : String → State → State → Prop := fun E st t => ∃ h1 : zH, oo = .inl (E, h1) ∧ z_hp G lo t h1 t.heap ∧ va_F (fun z : Nat => lo ≤ z) st t
abbrev z_rm (fr lc mc ms : Nat) : Room := { frames := fr, cells := mc, slots := ms, locals := lc }
/-- A METHOD'S CONTRACT: from every heap that holds h, at size nx: it ends as oo says -/
def z_Met (l : Launch) (y : MethodName) (cc : ByteArray) (maxL : Nat) (ret : Option FieldType) (fr lc : Nat) (G : zG) (lo t0 : Nat) (av : List Value) (h : zH) (nx : Nat) (oo : zV) (mc ms : Nat) : Prop :=
  vx_Met l y (Cond.code y cc maxL ret :: wsL_law) (z_rm fr lc mc ms) (va_Pc av (z_U G lo t0 h nx)) (z_qn G lo oo) (z_qx G lo oo) mc ms (fun z : Nat => lo ≤ z)
/-- what a walk of a method has at hand all along -/
def z_Cx (p : Program) (l : Launch) (s : State) (m : MethodId) (args : Array Value) (meth : Method) (c : Code) (cc : ByteArray) (nL : Nat) (own : String) (ret : Option FieldType) (G : zG) (lo t0 : Nat) : Prop :=
  CallFix p m c cc nL s args wsL_law own ∧ meth.sig.returnType = ret ∧ meth.locks = false ∧ (∀ x ∈ c.exceptionTable.toList, False) ∧ lo ≤ s.heap.size ∧ z_K G s ∧ z_Z lo t0 s s.heap ∧ z_T s
/-- a point of a walk: the machine at pc, with these locals, this stack, over any heap that holds h -/
def z_R (p : Program) (l : Launch) (e : Env) (R : Room) (s : State) (m : MethodId) (args : Array Value) (below : List Frame) (meth : Method) (c : Code) (G : zG) (lo nL cells slots : Nat) (Q : State → Prop) (pc : Nat) (lv : List (Nat × Value)) (st : List Value) (h : zH) (nx : Nat) : Prop :=
  ∀ (H : Heap) (locs : List Loc) (ls : Array Slot), H.size = nx → z_hp G lo s h H → va_S (fun z : Nat => lo ≤ z) s.heap H locs → lv_has ls nL lv → W p l e R s m args below meth c H locs cells slots Q (F0 m pc ls st)
theorem z_of {l : Launch} {y : MethodName} {cc : ByteArray} {maxL : Nat} {ret : Option FieldType} {fr lc : Nat} {G : zG} {lo t0 : Nat} {av : List Value} {h : zH} {nx : Nat} {oo : zV} {mc ms : Nat} (lv : List (Nat × Value)) (hy : plainName y.cls = true) (hn : (lg_sl av).length ≤ maxL) (hlv : lv_args 0 av = lv)
    (body : ∀ p e s m below meth c, z_Cx p l s m av.toArray meth c cc maxL y.cls ret G lo t0 → meth.name = y.name → z_R p l e (z_rm fr lc mc ms) s m av.toArray below meth c G lo maxL 0 0 (vx_MQ below (z_qn G lo oo) (z_qx G lo oo) av.toArray s mc ms (fun z : Nat => lo ≤ z)) 0 lv [] h nx) : z_Met l y cc maxL ret fr lc G lo t0 av h nx oo mc ms := by
  subst hlv
  refine vx_ofW (cc := cc) (maxL := maxL) (ret := ret) hy rfl ?_
  intro p e s m args below meth c s₁ B hml htab hv
  obtain ⟨rfl, hsz, hlo, hK, hZ, hT, hh⟩ := hv
  have hts := atoms_spec (ws := Cond.code y cc maxL ret :: wsL_law) B.pre
  have hown : s.vm.findClass y.cls = some m.cls := findClass_of_methodNamed B.named
  have hl := lv_entry av (n := maxL) hn
  rw [lg_entry_eq]
  exact body p e s m below meth c ⟨⟨B.exec, B.bytes, hml, hown, fun w hw => hts w (List.mem_cons_of_mem _ hw)⟩, B.returns, B.notSynchronized, htab, by rw [hsz]; exact hlo, hK, hZ, hT⟩ (name_of_methodNamed B.named B.method).1 s.heap [] _ hsz hh va_S.rf hl
/-- from a point of a walk, what a callee asks -/
theorem z_pre {p : Program} {l : Launch} {s : State} {m : MethodId} {args : Array Value} {meth : Method} {c : Code} {cc : ByteArray} {nL : Nat} {own : String} {ret : Option FieldType} {G : zG} {lo t0 : Nat} (C : z_Cx p l s m args meth c cc nL own ret G lo t0) {h : zH} {nx : Nat} {H : Heap} {locs : List Loc} (hz : H.size = nx) (hh : z_hp G lo s h H) (hS : va_S (fun z : Nat => lo ≤ z) s.heap H locs) : ∀ U : State, U.heap = H → s.WarmedH U.vm → z_U G lo t0 h nx U := by
  intro U hU hW
  obtain ⟨-, -, -, -, hlo, hK, hZ, hT⟩ := C
  refine ⟨by rw [hU]; exact hz, by rw [← hz]; exact Nat.le_trans hlo hS.1, va_K.moved hW.alike hK, ?_, z_T.warm hW hT, by rw [hU]; exact hh.moved hW.alike⟩
  rw [hU]
  exact z_Z.moved hW.alike (hZ.kept hS.2.1)
end
section
/-! what is read and written of the abstract heap -/
def z_ob (h : zH) (a ci : Nat) : Option (List Value) := match h a with
  | some (.inr (.inl o)) => if o.1 = ci then some o.2 else none
  | _ => none
def z_gI (h : zH) (a ci k : Nat) : Option Int32 := (z_ob h a ci).bind fun fs => match fs[k]? with
  | some (.int x) => some x
  | _ => none
def z_gR (h : zH) (a ci k : Nat) : Option Nat := (z_ob h a ci).bind fun fs => match fs[k]? with
  | some (.ref x) => some x
  | _ => none
def z_pV (h : zH) (a ci k : Nat) (v : Value) : Option zH := (z_ob h a ci).bind fun fs => if k < fs.length then some (z_up h a (zO ci (fs.set k v))) else none
def z_ck (h : zH) (a ci : Nat) : Option Unit := (z_ob h a ci).bind fun _ => some ()
def z_ai (h : zH) (a : Nat) : Option (Nat × (Nat → Int32)) := match h a with
  | some (.inl (t, n, .inl f)) => if t = 0 then some (n, f) else none
  | _ => none
def z_aq (h : zH) (a : Nat) : Option (Nat × (Nat → Option Nat)) := match h a with
  | some (.inl (t, n, .inr (.inr (.inr (.inr f))))) => if t = 1 then some (n, f) else none
  | _ => none
def z_aI (h : zH) (a : Nat) (i : Int32) : Option Int32 := (z_ai h a).bind fun r => if i < 0 ∨ r.1 ≤ i.toNatClampNeg then none else some (r.2 i.toNatClampNeg)
def z_sI (h : zH) (a : Nat) (i x : Int32) : Option zH := (z_ai h a).bind fun r => if i < 0 ∨ r.1 ≤ i.toNatClampNeg then none else some (z_up h a (zI r.1 (upd r.2 i.toNatClampNeg x)))
def z_aR (h : zH) (a : Nat) (i : Int32) : Option Nat := (z_aq h a).bind fun r => if i < 0 ∨ r.1 ≤ i.toNatClampNeg then none else r.2 i.toNatClampNeg
def z_sR (h : zH) (a : Nat) (i : Int32) (v : Option Nat) : Option zH := (z_aq h a).bind fun r => if i < 0 ∨ r.1 ≤ i.toNatClampNeg then none else some (z_up h a (zQ r.1 (va_up r.2 i.toNatClampNeg v)))
def z_al (h : zH) (a : Nat) : Option Int32 := match h a with
  | some (.inl r) => if r.1 < 3 then some (Int32.ofNat r.2.1) else none
  | some (.inr (.inr _)) => some 0
  | _ => none
theorem z_ob_spec {h : zH} {a ci : Nat} {fs : List Value} (e : z_ob h a ci = some fs) : h a = some (zO ci fs) := by
  unfold z_ob at e
  split at e
  · rename_i o ho
    by_cases hc : o.1 = ci
    · rw [if_pos hc] at e
      cases e
      rw [ho, ← hc]
    · rw [if_neg hc] at e; cases e
  · cases e
theorem z_ob_of {h : zH} {a ci : Nat} {fs : List Value} (e : h a = some (zO ci fs)) : z_ob h a ci = some fs := by
  unfold z_ob
  rw [e]
  simp
theorem z_gI_spec {h : zH} {a ci k : Nat} {x : Int32} (e : z_gI h a ci k = some x) : ∃ fs, h a = some (zO ci fs) ∧ fs[k]? = some (.int x) := by
  obtain ⟨fs, h1, h2⟩ := Option.bind_eq_some_iff.mp e
  refine ⟨fs, z_ob_spec h1, ?_⟩
  split at h2
  · rename_i y hy; cases h2; exact hy
  · cases h2
theorem z_gR_spec {h : zH} {a ci k : Nat} {x : Nat} (e : z_gR h a ci k = some x) : ∃ fs, h a = some (zO ci fs) ∧ fs[k]? = some (.ref x) := by
  obtain ⟨fs, h1, h2⟩ := Option.bind_eq_some_iff.mp e
  refine ⟨fs, z_ob_spec h1, ?_⟩
  split at h2
  · rename_i y hy; cases h2; exact hy
  · cases h2
theorem z_pV_spec {h h1 : zH} {a ci k : Nat} {v : Value} (e : z_pV h a ci k v = some h1) : ∃ fs, h a = some (zO ci fs) ∧ k < fs.length ∧ h1 = z_up h a (zO ci (fs.set k v)) := by
  obtain ⟨fs, e1, e2⟩ := Option.bind_eq_some_iff.mp e
  refine ⟨fs, z_ob_spec e1, ?_⟩
  split at e2
  · rename_i hk; cases e2; exact ⟨hk, rfl⟩
  · cases e2
theorem z_ck_spec {h : zH} {a ci : Nat} {u : Unit} (e : z_ck h a ci = some u) : ∃ fs, h a = some (zO ci fs) := by
  obtain ⟨fs, e1, -⟩ := Option.bind_eq_some_iff.mp e
  exact ⟨fs, z_ob_spec e1⟩
theorem z_ai_spec {h : zH} {a : Nat} {r : Nat × (Nat → Int32)} (e : z_ai h a = some r) : h a = some (zI r.1 r.2) := by
  unfold z_ai at e
  split at e
  · rename_i t n f ho
    by_cases ht : t = 0
    · rw [if_pos ht] at e; cases e; rw [ho, ht]
    · rw [if_neg ht] at e; cases e
  · cases e
theorem z_aq_spec {h : zH} {a : Nat} {r : Nat × (Nat → Option Nat)} (e : z_aq h a = some r) : h a = some (zQ r.1 r.2) := by
  unfold z_aq at e
  split at e
  · rename_i t n f ho
    by_cases ht : t = 1
    · rw [if_pos ht] at e; cases e; rw [ho, ht]
    · rw [if_neg ht] at e; cases e
  · cases e
theorem z_aI_spec {h : zH} {a : Nat} {i x : Int32} (e : z_aI h a i = some x) : ∃ n f, h a = some (zI n f) ∧ vp_in i n ∧ f i.toNatClampNeg = x := by
  obtain ⟨r, e1, e2⟩ := Option.bind_eq_some_iff.mp e
  refine ⟨r.1, r.2, z_ai_spec e1, ?_⟩
  split at e2
  · cases e2
  · rename_i hn; cases e2; exact ⟨hn, rfl⟩
theorem z_sI_spec {h h1 : zH} {a : Nat} {i x : Int32} (e : z_sI h a i x = some h1) : ∃ n f, h a = some (zI n f) ∧ vp_in i n ∧ h1 = z_up h a (zI n (upd f i.toNatClampNeg x)) := by
  obtain ⟨r, e1, e2⟩ := Option.bind_eq_some_iff.mp e
  refine ⟨r.1, r.2, z_ai_spec e1, ?_⟩
  split at e2
  · cases e2
  · rename_i hn; cases e2; exact ⟨hn, rfl⟩
theorem z_aR_spec {h : zH} {a : Nat} {i : Int32} {x : Nat} (e : z_aR h a i = some x) : ∃ n f, h a = some (zQ n f) ∧ vp_in i n ∧ f i.toNatClampNeg = some x := by
  obtain ⟨r, e1, e2⟩ := Option.bind_eq_some_iff.mp e
  refine ⟨r.1, r.2, z_aq_spec e1, ?_⟩
  split at e2
  · cases e2
  · rename_i hn; exact ⟨hn, e2⟩
theorem z_sR_spec {h h1 : zH} {a : Nat} {i : Int32} {v : Option Nat} (e : z_sR h a i v = some h1) : ∃ n f, h a = some (zQ n f) ∧ vp_in i n ∧ h1 = z_up h a (zQ n (va_up f i.toNatClampNeg v)) := by
  obtain ⟨r, e1, e2⟩ := Option.bind_eq_some_iff.mp e
  refine ⟨r.1, r.2, z_aq_spec e1, ?_⟩
  split at e2
  · cases e2
  · rename_i hn; cases e2; exact ⟨hn, rfl⟩
/-! loops and joins of the mirrors -/
def wl1 {A R : Type} (f : (A → Option R) → A → Option R) : Nat → A → Option R
  | 0 => fun _ => none
  | n + 1 => f (wl1 f n)
def wl2 {A B R : Type} (f : (A → B → Option R) → A → B → Option R) : Nat → A → B → Option R
  | 0 => fun _ _ => none
  | n + 1 => f (wl2 f n)
def wl3 {A B C R : Type} (f : (A → B → C → Option R) → A → B → C → Option R) : Nat → A → B → C → Option R
  | 0 => fun _ _ _ => none
  | n + 1 => f (wl3 f n)
def wl4 {A B C D R : Type} (f : (A → B → C → D → Option R) → A → B → C → D → Option R) : Nat → A → B → C → D → Option R
  | 0 => fun _ _ _ _ => none
  | n + 1 => f (wl4 f n)
def wl5 {A B C D E R : Type} (f : (A → B → C → D → E → Option R) → A → B → C → D → E → Option R) : Nat → A → B → C → D → E → Option R
  | 0 => fun _ _ _ _ _ => none
  | n + 1 => f (wl5 f n)
def wl6 {A B C D E F R : Type} (f : (A → B → C → D → E → F → Option R) → A → B → C → D → E → F → Option R) : Nat → A → B → C → D → E → F → Option R
  | 0 => fun _ _ _ _ _ _ => none
  | n + 1 => f (wl6 f n)
def wl7 {A B C D E F J R : Type} (f : (A → B → C → D → E → F → J → Option R) → A → B → C → D → E → F → J → Option R) : Nat → A → B → C → D → E → F → J → Option R
  | 0 => fun _ _ _ _ _ _ _ => none
  | n + 1 => f (wl7 f n)
theorem wl1_i {A R : Type} {f : (A → Option R) → A → Option R} {P : Option R → A → Prop} (h0 : ∀ a, P none a) (hs : ∀ rec, (∀ a, P (rec a) a) → ∀ a, P (f rec a) a) : ∀ n a, P (wl1 f n a) a
  | 0 => h0
  | n + 1 => hs _ (wl1_i h0 hs n)
theorem wl2_i {A B R : Type} {f : (A → B → Option R) → A → B → Option R} {P : Option R → A → B → Prop} (h0 : ∀ a b, P none a b) (hs : ∀ rec, (∀ a b, P (rec a b) a b) → ∀ a b, P (f rec a b) a b) : ∀ n a b, P (wl2 f n a b) a b
  | 0 => h0
  | n + 1 => hs _ (wl2_i h0 hs n)
theorem wl3_i {A B C R : Type} {f : (A → B → C → Option R) → A → B → C → Option R} {P : Option R → A → B → C → Prop} (h0 : ∀ a b c, P none a b c) (hs : ∀ rec, (∀ a b c, P (rec a b c) a b c) → ∀ a b c, P (f rec a b c) a b c) : ∀ n a b c, P (wl3 f n a b c) a b c
  | 0 => h0
  | n + 1 => hs _ (wl3_i h0 hs n)
theorem wl4_i {A B C D R : Type} {f : (A → B → C → D → Option R) → A → B → C → D → Option R} {P : Option R → A → B → C → D → Prop} (h0 : ∀ a b c d, P none a b c d) (hs : ∀ rec, (∀ a b c d, P (rec a b c d) a b c d) → ∀ a b c d, P (f rec a b c d) a b c d) : ∀ n a b c d, P (wl4 f n a b c d) a b c d
  | 0 => h0
  | n + 1 => hs _ (wl4_i h0 hs n)
theorem wl5_i {A B C D E R : Type} {f : (A → B → C → D → E → Option R) → A → B → C → D → E → Option R} {P : Option R → A → B → C → D → E → Prop} (h0 : ∀ a b c d e, P none a b c d e) (hs : ∀ rec, (∀ a b c d e, P (rec a b c d e) a b c d e) → ∀ a b c d e, P (f rec a b c d e) a b c d e) : ∀ n a b c d e, P (wl5 f n a b c d e) a b c d e
  | 0 => h0
  | n + 1 => hs _ (wl5_i h0 hs n)
theorem wl6_i {A B C D E F R : Type} {f : (A → B → C → D → E → F → Option R) → A → B → C → D → E → F → Option R} {P : Option R → A → B → C → D → E → F → Prop} (h0 : ∀ a b c d e g, P none a b c d e g) (hs : ∀ rec, (∀ a b c d e g, P (rec a b c d e g) a b c d e g) → ∀ a b c d e g, P (f rec a b c d e g) a b c d e g) : ∀ n a b c d e g, P (wl6 f n a b c d e g) a b c d e g
  | 0 => h0
  | n + 1 => hs _ (wl6_i h0 hs n)
theorem wl7_i {A B C D E F J R : Type} {f : (A → B → C → D → E → F → J → Option R) → A → B → C → D → E → F → J → Option R} {P : Option R → A → B → C → D → E → F → J → Prop} (h0 : ∀ a b c d e g j, P none a b c d e g j) (hs : ∀ rec, (∀ a b c d e g j, P (rec a b c d e g j) a b c d e g j) → ∀ a b c d e g j, P (f rec a b c d e g j) a b c d e g j) : ∀ n a b c d e g j, P (wl7 f n a b c d e g j) a b c d e g j
  | 0 => h0
  | n + 1 => hs _ (wl7_i h0 hs n)
def jn0 {R : Type} (k : Option R) (b : Option R → Option R) : Option R := b k
def jn1 {A R : Type} (k : A → Option R) (b : (A → Option R) → Option R) : Option R := b k
def jn2 {A B R : Type} (k : A → B → Option R) (b : (A → B → Option R) → Option R) : Option R := b k
def jn3 {A B C R : Type} (k : A → B → C → Option R) (b : (A → B → C → Option R) → Option R) : Option R := b k
def jn4 {A B C D R : Type} (k : A → B → C → D → Option R) (b : (A → B → C → D → Option R) → Option R) : Option R := b k
def jn5 {A B C D E R : Type} (k : A → B → C → D → E → Option R) (b : (A → B → C → D → E → Option R) → Option R) : Option R := b k
/-- a callee that may throw, called where what it throws goes on to the caller -/
def z_tb {X Y : Type} (a : Option (String ⊕ X)) (k : X → Option (String ⊕ Y)) : Option (String ⊕ Y) := a.bind fun z => match z with
  | .inl E => some (.inl E)
  | .inr x => k x
/-- .. called where it never throws -/
def z_tn {X Y : Type} (a : Option (String ⊕ X)) (k : X → Option Y) : Option Y := a.bind fun z => match z with
  | .inl _ => none
  | .inr x => k x
end
section
theorem WL_good : wsL_law.all goodWord = true := by decide +kernel
theorem WL_in : GoodIn wsL_law wsL_law := goodIn_sub (fun _ h => h) WL_good
theorem WL_cons {w : Cond} {l : List Cond} (h1 : w ∈ wsL_law) (h2 : GoodIn wsL_law l) : GoodIn wsL_law (w :: l) := by
  intro x hx
  rcases List.mem_cons.mp hx with rfl | hx
  · exact WL_in x h1
  · exact h2 x hx
theorem WL_of0 {w : Cond} (h : w ∈ wsL_law0) : w ∈ wsL_law := List.mem_append_left _ (List.mem_append_left _ (List.mem_append_left _ (List.mem_append_left _ h)))
section ZR
variable {p : Program} {l : Launch} {e : Env} {R : Room} {s : State} {m : MethodId} {args : Array Value} {below : List Frame} {meth : Method} {c : Code} {G : zG} {lo t0 nL cells slots : Nat} {Q : State → Prop} {pc : Nat} {lv lv' : List (Nat × Value)} {st rest : List Value} {h h1 : zH} {nx : Nat} {cc : ByteArray} {own : String} {ret : Option FieldType}
variable {x y v : Int32} {X Y V : Int64} {a b : Nat} {n off : Int} {tgt i k : Nat}
theorem z_iconst (C : z_Cx p l s m args meth c cc nL own ret G lo t0) (d : decode cc pc = .ok (.iconst n, 1)) (hv : Int32.ofInt n = v) (K : z_R p l e R s m args below meth c G lo nL cells slots Q (pc + 1) lv (.int v :: st) h nx) : z_R p l e R s m args below meth c G lo nL cells slots Q pc lv st h nx := fun H locs ls e1 e2 e3 e4 => lv_iconst C.1.1 C.1.2.1 d hv (K H locs ls e1 e2 e3 e4)
theorem z_bipush (C : z_Cx p l s m args meth c cc nL own ret G lo t0) (d : decode cc pc = .ok (.bipush n, 2)) (hv : (Int8.ofInt n).toInt32 = v) (K : z_R p l e R s m args below meth c G lo nL cells slots Q (pc + 2) lv (.int v :: st) h nx) : z_R p l e R s m args below meth c G lo nL cells slots Q pc lv st h nx := fun H locs ls e1 e2 e3 e4 => lv_bipush C.1.1 C.1.2.1 d hv (K H locs ls e1 e2 e3 e4)
theorem z_sipush (C : z_Cx p l s m args meth c cc nL own ret G lo t0) (d : decode cc pc = .ok (.sipush n, 3)) (hv : (Int16.ofInt n).toInt32 = v) (K : z_R p l e R s m args below meth c G lo nL cells slots Q (pc + 3) lv (.int v :: st) h nx) : z_R p l e R s m args below meth c G lo nL cells slots Q pc lv st h nx := fun H locs ls e1 e2 e3 e4 => lv_sipush C.1.1 C.1.2.1 d hv (K H locs ls e1 e2 e3 e4)
theorem z_lconst {q : Fin 2} (C : z_Cx p l s m args meth c cc nL own ret G lo t0) (d : decode cc pc = .ok (.lconst q, 1)) (hv : Int64.ofNat (q : Nat) = V) (K : z_R p l e R s m args below meth c G lo nL cells slots Q (pc + 1) lv (.long V :: st) h nx) : z_R p l e R s m args below meth c G lo nL cells slots Q pc lv st h nx := fun H locs ls e1 e2 e3 e4 => lv_lconst C.1.1 C.1.2.1 d hv (K H locs ls e1 e2 e3 e4)
theorem z_ldc2 {ix : Nat} (C : z_Cx p l s m args meth c cc nL own ret G lo t0) (d : decode cc pc = .ok (.ldc2_w ix, 3)) (hw : Cond.constantLong own ix V ∈ wsL_law) (K : z_R p l e R s m args below meth c G lo nL cells slots Q (pc + 3) lv (.long V :: st) h nx) : z_R p l e R s m args below meth c G lo nL cells slots Q pc lv st h nx := fun H locs ls e1 e2 e3 e4 => lv_ldc2 C.1.1 C.1.2.1 C.1.2.2.2.1 (C.1.2.2.2.2 _ hw) d (K H locs ls e1 e2 e3 e4)
theorem z_null (C : z_Cx p l s m args meth c cc nL own ret G lo t0) (d : decode cc pc = .ok (.aconst_null, 1)) (K : z_R p l e R s m args below meth c G lo nL cells slots Q (pc + 1) lv (.null :: st) h nx) : z_R p l e R s m args below meth c G lo nL cells slots Q pc lv st h nx := fun H locs ls e1 e2 e3 e4 => lv_null C.1.1 C.1.2.1 d (K H locs ls e1 e2 e3 e4)
theorem z_iload_n {q : Fin 4} (C : z_Cx p l s m args meth c cc nL own ret G lo t0) (d : decode cc pc = .ok (.iload_n q, 1)) (hk : lv[k]? = some ((q : Nat), .int x)) (K : z_R p l e R s m args below meth c G lo nL cells slots Q (pc + 1) lv (.int x :: st) h nx) : z_R p l e R s m args below meth c G lo nL cells slots Q pc lv st h nx := fun H locs ls e1 e2 e3 e4 => lv_iload_n C.1.1 C.1.2.1 d rfl (lv_at e4 k hk) (K H locs ls e1 e2 e3 e4)
theorem z_iload (C : z_Cx p l s m args meth c cc nL own ret G lo t0) (d : decode cc pc = .ok (.iload i, 2)) (hk : lv[k]? = some (i, .int x)) (K : z_R p l e R s m args below meth c G lo nL cells slots Q (pc + 2) lv (.int x :: st) h nx) : z_R p l e R s m args below meth c G lo nL cells slots Q pc lv st h nx := fun H locs ls e1 e2 e3 e4 => lv_iload C.1.1 C.1.2.1 d (lv_at e4 k hk) (K H locs ls e1 e2 e3 e4)
theorem z_lload_n {q : Fin 4} (C : z_Cx p l s m args meth c cc nL own ret G lo t0) (d : decode cc pc = .ok (.lload_n q, 1)) (hk : lv[k]? = some ((q : Nat), .long X)) (K : z_R p l e R s m args below meth c G lo nL cells slots Q (pc + 1) lv (.long X :: st) h nx) : z_R p l e R s m args below meth c G lo nL cells slots Q pc lv st h nx := fun H locs ls e1 e2 e3 e4 => lv_lload_n C.1.1 C.1.2.1 d rfl (lv_at e4 k hk) (K H locs ls e1 e2 e3 e4)
theorem z_lload (C : z_Cx p l s m args meth c cc nL own ret G lo t0) (d : decode cc pc = .ok (.lload i, 2)) (hk : lv[k]? = some (i, .long X)) (K : z_R p l e R s m args below meth c G lo nL cells slots Q (pc + 2) lv (.long X :: st) h nx) : z_R p l e R s m args below meth c G lo nL cells slots Q pc lv st h nx := fun H locs ls e1 e2 e3 e4 => lv_lload C.1.1 C.1.2.1 d (lv_at e4 k hk) (K H locs ls e1 e2 e3 e4)
theorem z_aload_n {q : Fin 4} (C : z_Cx p l s m args meth c cc nL own ret G lo t0) (d : decode cc pc = .ok (.aload_n q, 1)) (hk : lv[k]? = some ((q : Nat), .ref a)) (K : z_R p l e R s m args below meth c G lo nL cells slots Q (pc + 1) lv (.ref a :: st) h nx) : z_R p l e R s m args below meth c G lo nL cells slots Q pc lv st h nx := fun H locs ls e1 e2 e3 e4 => lv_aload_n C.1.1 C.1.2.1 d rfl (lv_at e4 k hk) (K H locs ls e1 e2 e3 e4)
theorem z_aload (C : z_Cx p l s m args meth c cc nL own ret G lo t0) (d : decode cc pc = .ok (.aload i, 2)) (hk : lv[k]? = some (i, .ref a)) (K : z_R p l e R s m args below meth c G lo nL cells slots Q (pc + 2) lv (.ref a :: st) h nx) : z_R p l e R s m args below meth c G lo nL cells slots Q pc lv st h nx := fun H locs ls e1 e2 e3 e4 => lv_aload C.1.1 C.1.2.1 d (lv_at e4 k hk) (K H locs ls e1 e2 e3 e4)
abbrev z_s1 (lv : List (Nat × Value)) (i : Nat) (v : Value) : List (Nat × Value) := (i, v) :: lv.filter (fun q => !(q.1 == i) && !(q.1 + 1 == i && q.2.category == 2))
abbrev z_s2 (lv : List (Nat × Value)) (i : Nat) (v : Value) : List (Nat × Value) := (i, v) :: lv.filter (fun q => !(q.1 == i) && (!(q.1 == i + 1) && !(q.1 + 1 == i && q.2.category == 2)))
theorem z_istore_n {q : Fin 4} (C : z_Cx p l s m args meth c cc nL own ret G lo t0) (d : decode cc pc = .ok (.istore_n q, 1)) (hn : (q : Nat) < nL) (hl : z_s1 lv (q : Nat) (.int x) = lv') (K : z_R p l e R s m args below meth c G lo nL cells slots Q (pc + 1) lv' st h nx) : z_R p l e R s m args below meth c G lo nL cells slots Q pc lv (.int x :: st) h nx := fun H locs ls e1 e2 e3 e4 => lv_istore_n C.1.1 C.1.2.1 d rfl e4 hn hl (fun ls' e5 => K H locs ls' e1 e2 e3 e5)
theorem z_istore (C : z_Cx p l s m args meth c cc nL own ret G lo t0) (d : decode cc pc = .ok (.istore i, 2)) (hn : i < nL) (hl : z_s1 lv i (.int x) = lv') (K : z_R p l e R s m args below meth c G lo nL cells slots Q (pc + 2) lv' st h nx) : z_R p l e R s m args below meth c G lo nL cells slots Q pc lv (.int x :: st) h nx := fun H locs ls e1 e2 e3 e4 => lv_istore C.1.1 C.1.2.1 d e4 hn hl (fun ls' e5 => K H locs ls' e1 e2 e3 e5)
theorem z_astore_n {q : Fin 4} (C : z_Cx p l s m args meth c cc nL own ret G lo t0) (d : decode cc pc = .ok (.astore_n q, 1)) (hn : (q : Nat) < nL) (hl : z_s1 lv (q : Nat) (.ref a) = lv') (K : z_R p l e R s m args below meth c G lo nL cells slots Q (pc + 1) lv' st h nx) : z_R p l e R s m args below meth c G lo nL cells slots Q pc lv (.ref a :: st) h nx := fun H locs ls e1 e2 e3 e4 => lv_astore_n C.1.1 C.1.2.1 d rfl e4 hn hl (fun ls' e5 => K H locs ls' e1 e2 e3 e5)
theorem z_astore (C : z_Cx p l s m args meth c cc nL own ret G lo t0) (d : decode cc pc = .ok (.astore i, 2)) (hn : i < nL) (hl : z_s1 lv i (.ref a) = lv') (K : z_R p l e R s m args below meth c G lo nL cells slots Q (pc + 2) lv' st h nx) : z_R p l e R s m args below meth c G lo nL cells slots Q pc lv (.ref a :: st) h nx := fun H locs ls e1 e2 e3 e4 => lv_astore C.1.1 C.1.2.1 d e4 hn hl (fun ls' e5 => K H locs ls' e1 e2 e3 e5)
theorem z_lstore_n {q : Fin 4} (C : z_Cx p l s m args meth c cc nL own ret G lo t0) (d : decode cc pc = .ok (.lstore_n q, 1)) (hn : (q : Nat) + 1 < nL) (hl : z_s2 lv (q : Nat) (.long X) = lv') (K : z_R p l e R s m args below meth c G lo nL cells slots Q (pc + 1) lv' st h nx) : z_R p l e R s m args below meth c G lo nL cells slots Q pc lv (.long X :: st) h nx := fun H locs ls e1 e2 e3 e4 => lv_lstore_n C.1.1 C.1.2.1 d rfl e4 hn hl (fun ls' e5 => K H locs ls' e1 e2 e3 e5)
theorem z_lstore (C : z_Cx p l s m args meth c cc nL own ret G lo t0) (d : decode cc pc = .ok (.lstore i, 2)) (hn : i + 1 < nL) (hl : z_s2 lv i (.long X) = lv') (K : z_R p l e R s m args below meth c G lo nL cells slots Q (pc + 2) lv' st h nx) : z_R p l e R s m args below meth c G lo nL cells slots Q pc lv (.long X :: st) h nx := fun H locs ls e1 e2 e3 e4 => lv_lstore C.1.1 C.1.2.1 d e4 hn hl (fun ls' e5 => K H locs ls' e1 e2 e3 e5)
theorem z_iinc (C : z_Cx p l s m args meth c cc nL own ret G lo t0) (d : decode cc pc = .ok (.iinc i n, 3)) (hk : lv[k]? = some (i, .int x)) (hv : x + Int32.ofInt n = v) (hn : i < nL) (hl : z_s1 lv i (.int v) = lv') (K : z_R p l e R s m args below meth c G lo nL cells slots Q (pc + 3) lv' st h nx) : z_R p l e R s m args below meth c G lo nL cells slots Q pc lv st h nx := fun H locs ls e1 e2 e3 e4 => lv_iinc C.1.1 C.1.2.1 d e4 hk hv hn hl (fun ls' e5 => K H locs ls' e1 e2 e3 e5)
theorem z_iadd (C : z_Cx p l s m args meth c cc nL own ret G lo t0) (d : decode cc pc = .ok (.iadd, 1)) (K : z_R p l e R s m args below meth c G lo nL cells slots Q (pc + 1) lv (.int (x + y) :: st) h nx) : z_R p l e R s m args below meth c G lo nL cells slots Q pc lv (.int y :: .int x :: st) h nx := fun H locs ls e1 e2 e3 e4 => lv_iadd C.1.1 C.1.2.1 d (K H locs ls e1 e2 e3 e4)
theorem z_isub (C : z_Cx p l s m args meth c cc nL own ret G lo t0) (d : decode cc pc = .ok (.isub, 1)) (K : z_R p l e R s m args below meth c G lo nL cells slots Q (pc + 1) lv (.int (x - y) :: st) h nx) : z_R p l e R s m args below meth c G lo nL cells slots Q pc lv (.int y :: .int x :: st) h nx := fun H locs ls e1 e2 e3 e4 => lv_isub C.1.1 C.1.2.1 d (K H locs ls e1 e2 e3 e4)
theorem z_imul (C : z_Cx p l s m args meth c cc nL own ret G lo t0) (d : decode cc pc = .ok (.imul, 1)) (K : z_R p l e R s m args below meth c G lo nL cells slots Q (pc + 1) lv (.int (x * y) :: st) h nx) : z_R p l e R s m args below meth c G lo nL cells slots Q pc lv (.int y :: .int x :: st) h nx := fun H locs ls e1 e2 e3 e4 => lv_imul C.1.1 C.1.2.1 d (K H locs ls e1 e2 e3 e4)
theorem z_iand (C : z_Cx p l s m args meth c cc nL own ret G lo t0) (d : decode cc pc = .ok (.iand, 1)) (K : z_R p l e R s m args below meth c G lo nL cells slots Q (pc + 1) lv (.int (x &&& y) :: st) h nx) : z_R p l e R s m args below meth c G lo nL cells slots Q pc lv (.int y :: .int x :: st) h nx := fun H locs ls e1 e2 e3 e4 => lv_iand C.1.1 C.1.2.1 d (K H locs ls e1 e2 e3 e4)
theorem z_ior (C : z_Cx p l s m args meth c cc nL own ret G lo t0) (d : decode cc pc = .ok (.ior, 1)) (K : z_R p l e R s m args below meth c G lo nL cells slots Q (pc + 1) lv (.int (x ||| y) :: st) h nx) : z_R p l e R s m args below meth c G lo nL cells slots Q pc lv (.int y :: .int x :: st) h nx := fun H locs ls e1 e2 e3 e4 => lv_ior C.1.1 C.1.2.1 d (K H locs ls e1 e2 e3 e4)
theorem z_ixor (C : z_Cx p l s m args meth c cc nL own ret G lo t0) (d : decode cc pc = .ok (.ixor, 1)) (K : z_R p l e R s m args below meth c G lo nL cells slots Q (pc + 1) lv (.int (x ^^^ y) :: st) h nx) : z_R p l e R s m args below meth c G lo nL cells slots Q pc lv (.int y :: .int x :: st) h nx := fun H locs ls e1 e2 e3 e4 => lv_ixor C.1.1 C.1.2.1 d (K H locs ls e1 e2 e3 e4)
theorem z_ishl (C : z_Cx p l s m args meth c cc nL own ret G lo t0) (d : decode cc pc = .ok (.ishl, 1)) (K : z_R p l e R s m args below meth c G lo nL cells slots Q (pc + 1) lv (.int (x <<< (y &&& 31)) :: st) h nx) : z_R p l e R s m args below meth c G lo nL cells slots Q pc lv (.int y :: .int x :: st) h nx := fun H locs ls e1 e2 e3 e4 => lv_ishl C.1.1 C.1.2.1 d (K H locs ls e1 e2 e3 e4)
theorem z_ishr (C : z_Cx p l s m args meth c cc nL own ret G lo t0) (d : decode cc pc = .ok (.ishr, 1)) (K : z_R p l e R s m args below meth c G lo nL cells slots Q (pc + 1) lv (.int (x >>> (y &&& 31)) :: st) h nx) : z_R p l e R s m args below meth c G lo nL cells slots Q pc lv (.int y :: .int x :: st) h nx := fun H locs ls e1 e2 e3 e4 => lv_ishr C.1.1 C.1.2.1 d (K H locs ls e1 e2 e3 e4)
theorem z_ineg (C : z_Cx p l s m args meth c cc nL own ret G lo t0) (d : decode cc pc = .ok (.ineg, 1)) (K : z_R p l e R s m args below meth c G lo nL cells slots Q (pc + 1) lv (.int (-x) :: st) h nx) : z_R p l e R s m args below meth c G lo nL cells slots Q pc lv (.int x :: st) h nx := fun H locs ls e1 e2 e3 e4 => lv_ineg C.1.1 C.1.2.1 d (K H locs ls e1 e2 e3 e4)
theorem z_idiv (C : z_Cx p l s m args meth c cc nL own ret G lo t0) (d : decode cc pc = .ok (.idiv, 1)) (hn : ¬ y = 0) (K : z_R p l e R s m args below meth c G lo nL cells slots Q (pc + 1) lv (.int (x / y) :: st) h nx) : z_R p l e R s m args below meth c G lo nL cells slots Q pc lv (.int y :: .int x :: st) h nx := fun H locs ls e1 e2 e3 e4 => lv_idiv C.1.1 C.1.2.1 d hn (K H locs ls e1 e2 e3 e4)
theorem z_irem (C : z_Cx p l s m args meth c cc nL own ret G lo t0) (d : decode cc pc = .ok (.irem, 1)) (hn : ¬ y = 0) (K : z_R p l e R s m args below meth c G lo nL cells slots Q (pc + 1) lv (.int (x - x / y * y) :: st) h nx) : z_R p l e R s m args below meth c G lo nL cells slots Q pc lv (.int y :: .int x :: st) h nx := fun H locs ls e1 e2 e3 e4 => lv_irem C.1.1 C.1.2.1 d hn (K H locs ls e1 e2 e3 e4)
theorem z_ladd (C : z_Cx p l s m args meth c cc nL own ret G lo t0) (d : decode cc pc = .ok (.ladd, 1)) (K : z_R p l e R s m args below meth c G lo nL cells slots Q (pc + 1) lv (.long (X + Y) :: st) h nx) : z_R p l e R s m args below meth c G lo nL cells slots Q pc lv (.long Y :: .long X :: st) h nx := fun H locs ls e1 e2 e3 e4 => lv_ladd C.1.1 C.1.2.1 d (K H locs ls e1 e2 e3 e4)
theorem z_lmul (C : z_Cx p l s m args meth c cc nL own ret G lo t0) (d : decode cc pc = .ok (.lmul, 1)) (K : z_R p l e R s m args below meth c G lo nL cells slots Q (pc + 1) lv (.long (X * Y) :: st) h nx) : z_R p l e R s m args below meth c G lo nL cells slots Q pc lv (.long Y :: .long X :: st) h nx := fun H locs ls e1 e2 e3 e4 => lv_lmul C.1.1 C.1.2.1 d (K H locs ls e1 e2 e3 e4)
theorem z_i2l (C : z_Cx p l s m args meth c cc nL own ret G lo t0) (d : decode cc pc = .ok (.i2l, 1)) (K : z_R p l e R s m args below meth c G lo nL cells slots Q (pc + 1) lv (.long x.toInt64 :: st) h nx) : z_R p l e R s m args below meth c G lo nL cells slots Q pc lv (.int x :: st) h nx := fun H locs ls e1 e2 e3 e4 => lv_i2l C.1.1 C.1.2.1 d rfl (K H locs ls e1 e2 e3 e4)
theorem z_dup {w : Value} (C : z_Cx p l s m args meth c cc nL own ret G lo t0) (d : decode cc pc = .ok (.dup, 1)) (hc : w.category = 1) (K : z_R p l e R s m args below meth c G lo nL cells slots Q (pc + 1) lv (w :: w :: st) h nx) : z_R p l e R s m args below meth c G lo nL cells slots Q pc lv (w :: st) h nx := fun H locs ls e1 e2 e3 e4 => lv_dup C.1.1 C.1.2.1 d hc (K H locs ls e1 e2 e3 e4)
theorem z_pop {w : Value} (C : z_Cx p l s m args meth c cc nL own ret G lo t0) (d : decode cc pc = .ok (.pop, 1)) (hc : w.category = 1) (K : z_R p l e R s m args below meth c G lo nL cells slots Q (pc + 1) lv st h nx) : z_R p l e R s m args below meth c G lo nL cells slots Q pc lv (w :: st) h nx := fun H locs ls e1 e2 e3 e4 => lv_pop C.1.1 C.1.2.1 d hc (K H locs ls e1 e2 e3 e4)
theorem z_dup_x1 {w z : Value} (C : z_Cx p l s m args meth c cc nL own ret G lo t0) (d : decode cc pc = .ok (.dup_x1, 1)) (hc : w.category = 1) (hc2 : z.category = 1) (K : z_R p l e R s m args below meth c G lo nL cells slots Q (pc + 1) lv (w :: z :: w :: st) h nx) : z_R p l e R s m args below meth c G lo nL cells slots Q pc lv (w :: z :: st) h nx := fun H locs ls e1 e2 e3 e4 => lv_dup_x1 C.1.1 C.1.2.1 d hc hc2 (K H locs ls e1 e2 e3 e4)
theorem z_dup2 {w z : Value} (C : z_Cx p l s m args meth c cc nL own ret G lo t0) (d : decode cc pc = .ok (.dup2, 1)) (hc : w.category = 1) (hc2 : z.category = 1) (K : z_R p l e R s m args below meth c G lo nL cells slots Q (pc + 1) lv (w :: z :: w :: z :: st) h nx) : z_R p l e R s m args below meth c G lo nL cells slots Q pc lv (w :: z :: st) h nx := fun H locs ls e1 e2 e3 e4 => lv_dup2_11 C.1.1 C.1.2.1 d hc hc2 (K H locs ls e1 e2 e3 e4)
theorem z_goto (C : z_Cx p l s m args meth c cc nL own ret G lo t0) (d : decode cc pc = .ok (.goto off, 3)) (ht : (pc : Int) + off = (tgt : Int)) (K : z_R p l e R s m args below meth c G lo nL cells slots Q tgt lv st h nx) : z_R p l e R s m args below meth c G lo nL cells slots Q pc lv st h nx := fun H locs ls e1 e2 e3 e4 => lv_goto C.1.1 C.1.2.1 d ht (K H locs ls e1 e2 e3 e4)
theorem z_sub (ks : List Nat) (hk : lv_pick lv ks = lv') (K : z_R p l e R s m args below meth c G lo nL cells slots Q pc lv' st h nx) : z_R p l e R s m args below meth c G lo nL cells slots Q pc lv st h nx := fun H locs ls e1 e2 e3 e4 => K H locs ls e1 e2 e3 (lv_sub e4 ks hk)
theorem z_wide {kc ks : Nat} (h1 : cells ≤ kc) (h2 : slots ≤ ks) (K : z_R p l e R s m args below meth c G lo nL kc ks Q pc lv st h nx) : z_R p l e R s m args below meth c G lo nL cells slots Q pc lv st h nx := fun H locs ls e1 e2 e3 e4 => W.widen h1 h2 (K H locs ls e1 e2 e3 e4)
end ZR
section ZB
variable {p : Program} {l : Launch} {e : Env} {R : Room} {s : State} {m : MethodId} {args : Array Value} {below : List Frame} {meth : Method} {c : Code} {G : zG} {lo t0 nL cells slots : Nat} {Q : State → Prop} {pc : Nat} {lv lv' : List (Nat × Value)} {st rest : List Value} {h h1 : zH} {nx : Nat} {cc : ByteArray} {own : String} {ret : Option FieldType}
variable {x y : Int32} {off : Int} {tgt : Nat} {Om : Type} {M1 M2 : Option Om} {o : Om}
theorem z_if_eq (C : z_Cx p l s m args meth c cc nL own ret G lo t0) (d : decode cc pc = .ok (.ifCond .eq off, 3)) (ht : (pc : Int) + off = (tgt : Int)) (hM : (if x = 0 then M1 else M2) = some o) (K1 : x = 0 → M1 = some o → z_R p l e R s m args below meth c G lo nL cells slots Q tgt lv st h nx) (K2 : ¬ x = 0 → M2 = some o → z_R p l e R s m args below meth c G lo nL cells slots Q (pc + 3) lv st h nx) : z_R p l e R s m args below meth c G lo nL cells slots Q pc lv (.int x :: st) h nx := fun H locs ls e1 e2 e3 e4 => lv_if_eq C.1.1 C.1.2.1 d ht (fun q => K1 q (by rw [if_pos q] at hM; exact hM) H locs ls e1 e2 e3 e4) (fun q => K2 q (by rw [if_neg q] at hM; exact hM) H locs ls e1 e2 e3 e4)
theorem z_icmp_eq (C : z_Cx p l s m args meth c cc nL own ret G lo t0) (d : decode cc pc = .ok (.if_icmp .eq off, 3)) (ht : (pc : Int) + off = (tgt : Int)) (hM : (if x = y then M1 else M2) = some o) (K1 : x = y → M1 = some o → z_R p l e R s m args below meth c G lo nL cells slots Q tgt lv st h nx) (K2 : ¬ x = y → M2 = some o → z_R p l e R s m args below meth c G lo nL cells slots Q (pc + 3) lv st h nx) : z_R p l e R s m args below meth c G lo nL cells slots Q pc lv (.int y :: .int x :: st) h nx := fun H locs ls e1 e2 e3 e4 => lv_icmp_eq C.1.1 C.1.2.1 d ht (fun q => K1 q (by rw [if_pos q] at hM; exact hM) H locs ls e1 e2 e3 e4) (fun q => K2 q (by rw [if_neg q] at hM; exact hM) H locs ls e1 e2 e3 e4)
theorem z_if_ne (C : z_Cx p l s m args meth c cc nL own ret G lo t0) (d : decode cc pc = .ok (.ifCond .ne off, 3)) (ht : (pc : Int) + off = (tgt : Int)) (hM : (if x = 0 then M1 else M2) = some o) (K1 : x = 0 → M1 = some o → z_R p l e R s m args below meth c G lo nL cells slots Q (pc + 3) lv st h nx) (K2 : ¬ x = 0 → M2 = some o → z_R p l e R s m args below meth c G lo nL cells slots Q tgt lv st h nx) : z_R p l e R s m args below meth c G lo nL cells slots Q pc lv (.int x :: st) h nx := fun H locs ls e1 e2 e3 e4 => lv_if_ne C.1.1 C.1.2.1 d ht (fun q => K2 q (by rw [if_neg q] at hM; exact hM) H locs ls e1 e2 e3 e4) (fun q => K1 q (by rw [if_pos q] at hM; exact hM) H locs ls e1 e2 e3 e4)
theorem z_icmp_ne (C : z_Cx p l s m args meth c cc nL own ret G lo t0) (d : decode cc pc = .ok (.if_icmp .ne off, 3)) (ht : (pc : Int) + off = (tgt : Int)) (hM : (if x = y then M1 else M2) = some o) (K1 : x = y → M1 = some o → z_R p l e R s m args below meth c G lo nL cells slots Q (pc + 3) lv st h nx) (K2 : ¬ x = y → M2 = some o → z_R p l e R s m args below meth c G lo nL cells slots Q tgt lv st h nx) : z_R p l e R s m args below meth c G lo nL cells slots Q pc lv (.int y :: .int x :: st) h nx := fun H locs ls e1 e2 e3 e4 => lv_icmp_ne C.1.1 C.1.2.1 d ht (fun q => K2 q (by rw [if_neg q] at hM; exact hM) H locs ls e1 e2 e3 e4) (fun q => K1 q (by rw [if_pos q] at hM; exact hM) H locs ls e1 e2 e3 e4)
theorem z_if_lt (C : z_Cx p l s m args meth c cc nL own ret G lo t0) (d : decode cc pc = .ok (.ifCond .lt off, 3)) (ht : (pc : Int) + off = (tgt : Int)) (hM : (if x < 0 then M1 else M2) = some o) (K1 : x < 0 → M1 = some o → z_R p l e R s m args below meth c G lo nL cells slots Q tgt lv st h nx) (K2 : ¬ x < 0 → M2 = some o → z_R p l e R s m args below meth c G lo nL cells slots Q (pc + 3) lv st h nx) : z_R p l e R s m args below meth c G lo nL cells slots Q pc lv (.int x :: st) h nx := fun H locs ls e1 e2 e3 e4 => lv_if_lt C.1.1 C.1.2.1 d ht (fun q => K1 q (by rw [if_pos q] at hM; exact hM) H locs ls e1 e2 e3 e4) (fun q => K2 q (by rw [if_neg q] at hM; exact hM) H locs ls e1 e2 e3 e4)
theorem z_icmp_lt (C : z_Cx p l s m args meth c cc nL own ret G lo t0) (d : decode cc pc = .ok (.if_icmp .lt off, 3)) (ht : (pc : Int) + off = (tgt : Int)) (hM : (if x < y then M1 else M2) = some o) (K1 : x < y → M1 = some o → z_R p l e R s m args below meth c G lo nL cells slots Q tgt lv st h nx) (K2 : ¬ x < y → M2 = some o → z_R p l e R s m args below meth c G lo nL cells slots Q (pc + 3) lv st h nx) : z_R p l e R s m args below meth c G lo nL cells slots Q pc lv (.int y :: .int x :: st) h nx := fun H locs ls e1 e2 e3 e4 => lv_icmp_lt C.1.1 C.1.2.1 d ht (fun q => K1 q (by rw [if_pos q] at hM; exact hM) H locs ls e1 e2 e3 e4) (fun q => K2 q (by rw [if_neg q] at hM; exact hM) H locs ls e1 e2 e3 e4)
theorem z_if_ge (C : z_Cx p l s m args meth c cc nL own ret G lo t0) (d : decode cc pc = .ok (.ifCond .ge off, 3)) (ht : (pc : Int) + off = (tgt : Int)) (hM : (if 0 ≤ x then M1 else M2) = some o) (K1 : 0 ≤ x → M1 = some o → z_R p l e R s m args below meth c G lo nL cells slots Q tgt lv st h nx) (K2 : ¬ 0 ≤ x → M2 = some o → z_R p l e R s m args below meth c G lo nL cells slots Q (pc + 3) lv st h nx) : z_R p l e R s m args below meth c G lo nL cells slots Q pc lv (.int x :: st) h nx := fun H locs ls e1 e2 e3 e4 => lv_if_ge C.1.1 C.1.2.1 d ht (fun q => K1 q (by rw [if_pos q] at hM; exact hM) H locs ls e1 e2 e3 e4) (fun q => K2 q (by rw [if_neg q] at hM; exact hM) H locs ls e1 e2 e3 e4)
theorem z_icmp_ge (C : z_Cx p l s m args meth c cc nL own ret G lo t0) (d : decode cc pc = .ok (.if_icmp .ge off, 3)) (ht : (pc : Int) + off = (tgt : Int)) (hM : (if y ≤ x then M1 else M2) = some o) (K1 : y ≤ x → M1 = some o → z_R p l e R s m args below meth c G lo nL cells slots Q tgt lv st h nx) (K2 : ¬ y ≤ x → M2 = some o → z_R p l e R s m args below meth c G lo nL cells slots Q (pc + 3) lv st h nx) : z_R p l e R s m args below meth c G lo nL cells slots Q pc lv (.int y :: .int x :: st) h nx := fun H locs ls e1 e2 e3 e4 => lv_icmp_ge C.1.1 C.1.2.1 d ht (fun q => K1 q (by rw [if_pos q] at hM; exact hM) H locs ls e1 e2 e3 e4) (fun q => K2 q (by rw [if_neg q] at hM; exact hM) H locs ls e1 e2 e3 e4)
theorem z_if_gt (C : z_Cx p l s m args meth c cc nL own ret G lo t0) (d : decode cc pc = .ok (.ifCond .gt off, 3)) (ht : (pc : Int) + off = (tgt : Int)) (hM : (if 0 < x then M1 else M2) = some o) (K1 : 0 < x → M1 = some o → z_R p l e R s m args below meth c G lo nL cells slots Q tgt lv st h nx) (K2 : ¬ 0 < x → M2 = some o → z_R p l e R s m args below meth c G lo nL cells slots Q (pc + 3) lv st h nx) : z_R p l e R s m args below meth c G lo nL cells slots Q pc lv (.int x :: st) h nx := fun H locs ls e1 e2 e3 e4 => lv_if_gt C.1.1 C.1.2.1 d ht (fun q => K1 q (by rw [if_pos q] at hM; exact hM) H locs ls e1 e2 e3 e4) (fun q => K2 q (by rw [if_neg q] at hM; exact hM) H locs ls e1 e2 e3 e4)
theorem z_icmp_gt (C : z_Cx p l s m args meth c cc nL own ret G lo t0) (d : decode cc pc = .ok (.if_icmp .gt off, 3)) (ht : (pc : Int) + off = (tgt : Int)) (hM : (if y < x then M1 else M2) = some o) (K1 : y < x → M1 = some o → z_R p l e R s m args below meth c G lo nL cells slots Q tgt lv st h nx) (K2 : ¬ y < x → M2 = some o → z_R p l e R s m args below meth c G lo nL cells slots Q (pc + 3) lv st h nx) : z_R p l e R s m args below meth c G lo nL cells slots Q pc lv (.int y :: .int x :: st) h nx := fun H locs ls e1 e2 e3 e4 => lv_icmp_gt C.1.1 C.1.2.1 d ht (fun q => K1 q (by rw [if_pos q] at hM; exact hM) H locs ls e1 e2 e3 e4) (fun q => K2 q (by rw [if_neg q] at hM; exact hM) H locs ls e1 e2 e3 e4)
theorem z_if_le (C : z_Cx p l s m args meth c cc nL own ret G lo t0) (d : decode cc pc = .ok (.ifCond .le off, 3)) (ht : (pc : Int) + off = (tgt : Int)) (hM : (if x ≤ 0 then M1 else M2) = some o) (K1 : x ≤ 0 → M1 = some o → z_R p l e R s m args below meth c G lo nL cells slots Q tgt lv st h nx) (K2 : ¬ x ≤ 0 → M2 = some o → z_R p l e R s m args below meth c G lo nL cells slots Q (pc + 3) lv st h nx) : z_R p l e R s m args below meth c G lo nL cells slots Q pc lv (.int x :: st) h nx := fun H locs ls e1 e2 e3 e4 => lv_if_le C.1.1 C.1.2.1 d ht (fun q => K1 q (by rw [if_pos q] at hM; exact hM) H locs ls e1 e2 e3 e4) (fun q => K2 q (by rw [if_neg q] at hM; exact hM) H locs ls e1 e2 e3 e4)
theorem z_icmp_le (C : z_Cx p l s m args meth c cc nL own ret G lo t0) (d : decode cc pc = .ok (.if_icmp .le off, 3)) (ht : (pc : Int) + off = (tgt : Int)) (hM : (if x ≤ y then M1 else M2) = some o) (K1 : x ≤ y → M1 = some o → z_R p l e R s m args below meth c G lo nL cells slots Q tgt lv st h nx) (K2 : ¬ x ≤ y → M2 = some o → z_R p l e R s m args below meth c G lo nL cells slots Q (pc + 3) lv st h nx) : z_R p l e R s m args below meth c G lo nL cells slots Q pc lv (.int y :: .int x :: st) h nx := fun H locs ls e1 e2 e3 e4 => lv_icmp_le C.1.1 C.1.2.1 d ht (fun q => K1 q (by rw [if_pos q] at hM; exact hM) H locs ls e1 e2 e3 e4) (fun q => K2 q (by rw [if_neg q] at hM; exact hM) H locs ls e1 e2 e3 e4)
end ZB
theorem z_P1 {D : va_G} {cl : List vw_C} {H : Heap} {a : Nat} {e : va_E} (h : va_at D cl (a, e) H) : va_P D cl [(a, e)] H := by
  intro k q hk
  cases k with
  | zero => cases hk; exact h
  | succ k => simp at hk
theorem z_upd {G : zG} {lo : Nat} {s : State} {h : zH} {H H1 : Heap} {a : Nat} {c0 c1 : zC} {e0 e1 : va_E} (hh : z_hp G lo s h H) (ha : h a = some c0) (h0 : z_tr G c0 = some e0) (h1 : z_tr G c1 = some e1) (hn : va_at G.1 vwCl (a, e1) H1) (oq : ∀ q : Nat, q ≠ a → H1[q]? = H[q]?) : z_hp G lo s (z_up h a c1) H1 := by
  have hla : lo ≤ a := ((hh a c0 ha).1 e0 h0).1
  intro q c hq
  unfold z_up at hq
  by_cases hqa : q = a
  · rw [if_pos hqa] at hq
    cases hq
    subst hqa
    refine ⟨fun e he => ?_, fun he => by rw [h1] at he; cases he⟩
    cases h1.symm.trans he
    exact ⟨hla, hn⟩
  · rw [if_neg hqa] at hq
    refine ⟨fun e he => ⟨((hh q c hq).1 e he).1, ((hh q c hq).1 e he).2.kept (oq q hqa)⟩, fun he => ?_⟩
    exact va_T.kept ((hh q c hq).2 he) (fun b _ hnb => oq b (fun z => hnb (by rw [z]; exact hla)))
theorem z_newhp {G : zG} {lo nx : Nat} {s : State} {h : zH} {H H1 : Heap} {c1 : zC} {e1 : va_E} (hh : z_hp G lo s h H) (hz : H.size = nx) (hlo : lo ≤ nx) (h1 : z_tr G c1 = some e1) (hn : va_at G.1 vwCl (nx, e1) H1) (oq : ∀ q : Nat, q < nx → H1[q]? = H[q]?) : z_hp G lo s (z_up h nx c1) H1 := by
  intro q c hq
  unfold z_up at hq
  by_cases hqa : q = nx
  · rw [if_pos hqa] at hq
    cases hq
    refine ⟨fun e he => ?_, fun he => by rw [h1] at he; cases he⟩
    cases h1.symm.trans he
    rw [hqa]
    exact ⟨hlo, hn⟩
  · rw [if_neg hqa] at hq
    refine ⟨fun e he => ⟨((hh q c hq).1 e he).1, ((hh q c hq).1 e he).2.kept (oq q (by rw [← hz]; exact ((hh q c hq).1 e he).2.lt))⟩, fun he => ?_⟩
    exact va_T.kept ((hh q c hq).2 he) (fun b hb _ => oq b (by rw [← hz]; exact hb))
section ZM
variable {p : Program} {l : Launch} {e : Env} {R : Room} {s : State} {m : MethodId} {args : Array Value} {below : List Frame} {meth : Method} {c : Code} {G : zG} {lo t0 nL cells slots : Nat} {Q : State → Prop} {pc : Nat} {lv lv' : List (Nat × Value)} {st rest : List Value} {h h1 : zH} {nx : Nat} {cc : ByteArray} {own : String} {ret : Option FieldType}
variable {Cn ref : String} {T : u_T} {N ci ix k a b : Nat} {x i : Int32} {v : Value}
theorem z_getI (C : z_Cx p l s m args meth c cc nL own ret G lo t0) (hv : z_gI h a ci k = some x) (hc : vwCl[ci]? = some (Cn, T, N)) (hin : ∀ w ∈ u_ws Cn T N, w ∈ wsL_law) (hk : k < N) (hlink : Cond.fieldLink own ix ref (T k).2.1 (T k).2.2.1 ∈ wsL_law) (hsame : ∀ x, s.fieldFound? (T k).1 (T k).2.1 (T k).2.2.1 = some x → s.fieldFound? ref (T k).2.1 (T k).2.2.1 = some x) (d : decode cc pc = .ok (.getfield ix, 3)) (K : z_R p l e R s m args below meth c G lo nL cells slots Q (pc + 3) lv (.int x :: st) h nx) : z_R p l e R s m args below meth c G lo nL cells slots Q pc lv (.ref a :: st) h nx := by
  intro H locs ls e1 e2 e3 e4
  obtain ⟨fs, ha, hf⟩ := z_gI_spec hv
  exact va_get (D := G.1) C.1.1 C.1.2.1 C.1.2.2.2.2 hin C.1.2.2.2.1 C.2.2.2.2.2.1 (z_P1 ((e2 a _ ha).1 _ rfl).2) 0 rfl hc k hk (C.1.2.2.2.2 _ hlink) hsame hf d (K H locs ls e1 e2 e3 e4)
theorem z_getR (C : z_Cx p l s m args meth c cc nL own ret G lo t0) (hv : z_gR h a ci k = some b) (hc : vwCl[ci]? = some (Cn, T, N)) (hin : ∀ w ∈ u_ws Cn T N, w ∈ wsL_law) (hk : k < N) (hlink : Cond.fieldLink own ix ref (T k).2.1 (T k).2.2.1 ∈ wsL_law) (hsame : ∀ x, s.fieldFound? (T k).1 (T k).2.1 (T k).2.2.1 = some x → s.fieldFound? ref (T k).2.1 (T k).2.2.1 = some x) (d : decode cc pc = .ok (.getfield ix, 3)) (K : z_R p l e R s m args below meth c G lo nL cells slots Q (pc + 3) lv (.ref b :: st) h nx) : z_R p l e R s m args below meth c G lo nL cells slots Q pc lv (.ref a :: st) h nx := by
  intro H locs ls e1 e2 e3 e4
  obtain ⟨fs, ha, hf⟩ := z_gR_spec hv
  exact va_get (D := G.1) C.1.1 C.1.2.1 C.1.2.2.2.2 hin C.1.2.2.2.1 C.2.2.2.2.2.1 (z_P1 ((e2 a _ ha).1 _ rfl).2) 0 rfl hc k hk (C.1.2.2.2.2 _ hlink) hsame hf d (K H locs ls e1 e2 e3 e4)
theorem z_put (C : z_Cx p l s m args meth c cc nL own ret G lo t0) (hv : z_pV h a ci k v = some h1) (hc : vwCl[ci]? = some (Cn, T, N)) (hin : ∀ w ∈ u_ws Cn T N, w ∈ wsL_law) (ty0 : Nat → FieldType) (hty : ∀ k, k < N → parseFieldDescriptor (T k).2.2.1 = some (ty0 k)) (hnm : ∀ a, a < N → ∀ b, b < N → a ≠ b → (T a).2.1 ≠ (T b).2.1) (hk : k < N) (hlink : Cond.fieldLink own ix ref (T k).2.1 (T k).2.2.1 ∈ wsL_law) (hsame : ∀ x, s.fieldFound? (T k).1 (T k).2.1 (T k).2.2.1 = some x → s.fieldFound? ref (T k).2.1 (T k).2.2.1 = some x) (hfin : (T k).2.2.2 = false) {ty : FieldType} (hd : parseFieldDescriptor (T k).2.2.1 = some ty) (hn : narrow ty v = v) (hfit : fits ty v = true) (d : decode cc pc = .ok (.putfield ix, 3)) (K : z_R p l e R s m args below meth c G lo nL cells slots Q (pc + 3) lv st h1 nx) : z_R p l e R s m args below meth c G lo nL cells slots Q pc lv (v :: .ref a :: st) h nx := by
  intro H locs ls e1 e2 e3 e4
  obtain ⟨fs, ha, hl, rfl⟩ := z_pV_spec hv
  have hts := C.1.2.2.2.2
  have hK : va_K G.1 vwCl (z_tys G) s := C.2.2.2.2.2.1
  have hat := (e2 a _ ha).1 _ rfl
  obtain ⟨r, g1, cell, q1, q2, q3, q4⟩ := hat.2
  have hr : r = (Cn, T, N) := Option.some.inj (g1.symm.trans hc)
  subst hr
  have hap := va_apart (own := own) hts hin ty0 hty hnm hK hc
  obtain ⟨hS, hfc, kC, hkC, hkind⟩ := hK.1 ci _ hc
  obtain ⟨cf, kf, fi, f, hi, hsl⟩ := hS k hk
  have hlay := hts _ (hin _ (u_in_lay hk))
  unfold u_lay at hlay
  rw [if_neg (by rw [hfin]; decide)] at hlay
  have hst := (u_facts hfc hkC (u_lays hts hin hk) hi).1
  have h6 := u_store hfc hkC hkind hlay hi hd hn hfit
  refine W.putK C.1.1 C.1.2.1 (f := f) ⟨C.1.2.2.2.1, hts _ hlink, ⟨_, _, _, hsame _ hi⟩, hst⟩ (by rw [q2]; exact h6) q1 q3 (by rw [hsl]; exact k2_hasslot (q4 k hk)) rfl rfl d fun H' w1 w2 w3 => ?_
  rw [hsl] at w1 ⊢
  exact K H' _ ls (w2.trans e1) (z_upd e2 ha rfl rfl ⟨_, hc, t_OB.to (V := updV (vp_V fs) k v) ⟨_, w1, q2, q3, t_set q4 hap hk v⟩ (fun j _ => vp_updV_set hl v j)⟩ w3) (e3.put w2 w3 hat.1) e4
theorem z_putF (C : z_Cx p l s m args meth c cc nL own ret G lo t0) (hv : z_pV h a ci k v = some h1) (hc : vwCl[ci]? = some (Cn, T, N)) (hin : ∀ w ∈ u_ws Cn T N, w ∈ wsL_law) (ty0 : Nat → FieldType) (hty : ∀ k, k < N → parseFieldDescriptor (T k).2.2.1 = some (ty0 k)) (hnm : ∀ a, a < N → ∀ b, b < N → a ≠ b → (T a).2.1 ≠ (T b).2.1) (hk : k < N) (hlink : Cond.fieldLink own ix ref (T k).2.1 (T k).2.2.1 ∈ wsL_law) (hsame : ∀ x, s.fieldFound? (T k).1 (T k).2.1 (T k).2.2.1 = some x → s.fieldFound? ref (T k).2.1 (T k).2.2.1 = some x) (hfin : (T k).2.2.2 = true) (hin2 : meth.name = "<init>") (hdecl : (T k).1 = own) {ty : FieldType} (hd : parseFieldDescriptor (T k).2.2.1 = some ty) (hn : narrow ty v = v) (hfit : fits ty v = true) (d : decode cc pc = .ok (.putfield ix, 3)) (K : z_R p l e R s m args below meth c G lo nL cells slots Q (pc + 3) lv st h1 nx) : z_R p l e R s m args below meth c G lo nL cells slots Q pc lv (v :: .ref a :: st) h nx := by
  intro H locs ls e1 e2 e3 e4
  obtain ⟨fs, ha, hl, rfl⟩ := z_pV_spec hv
  have hts := C.1.2.2.2.2
  have hown := C.1.2.2.2.1
  have hK : va_K G.1 vwCl (z_tys G) s := C.2.2.2.2.2.1
  have hat := (e2 a _ ha).1 _ rfl
  obtain ⟨r, g1, cell, q1, q2, q3, q4⟩ := hat.2
  have hr : r = (Cn, T, N) := Option.some.inj (g1.symm.trans hc)
  subst hr
  have hap := va_apart (own := own) hts hin ty0 hty hnm hK hc
  obtain ⟨hS, hfc, kC, hkC, hkind⟩ := hK.1 ci _ hc
  obtain ⟨cf, kf, fi, f, hi, hsl⟩ := hS k hk
  have hlay := hts _ (hin _ (u_in_lay hk))
  unfold u_lay at hlay
  rw [if_pos hfin] at hlay
  have hst := (u_facts hfc hkC (u_lays hts hin hk) hi).1
  have hcf : m.cls = cf := by
    obtain ⟨_, _, c', _, _, _, -, -, hf', -, -, -, hown2, -⟩ := Cond.laysFinal_spec hlay
    have w1 : c' = cf := by have := hi.symm.trans hf'; simp at this; exact this.1.symm
    rw [hdecl] at hown2
    rw [← w1]; exact Option.some.inj (hown.symm.trans hown2)
  have h6 := u_fits hfc hkC hkind (Or.inr hlay) hi hd hn hfit
  refine W.putFinK C.1.1 C.1.2.1 hown (hts _ hlink) (hsame _ hi) hst hcf hin2 (by rw [q2]; exact h6) q1 q3 (by rw [hsl]; exact k2_hasslot (q4 k hk)) rfl rfl d fun H' w1 w2 w3 => ?_
  rw [hsl] at w1 ⊢
  exact K H' _ ls (w2.trans e1) (z_upd e2 ha rfl rfl ⟨_, hc, t_OB.to (V := updV (vp_V fs) k v) ⟨_, w1, q2, q3, t_set q4 hap hk v⟩ (fun j _ => vp_updV_set hl v j)⟩ w3) (e3.put w2 w3 hat.1) e4
theorem z_iald (C : z_Cx p l s m args meth c cc nL own ret G lo t0) (hv : z_aI h a i = some x) (d : decode cc pc = .ok (.iaload, 1)) (K : z_R p l e R s m args below meth c G lo nL cells slots Q (pc + 1) lv (.int x :: st) h nx) : z_R p l e R s m args below meth c G lo nL cells slots Q pc lv (.int i :: .ref a :: st) h nx := by
  intro H locs ls e1 e2 e3 e4
  obtain ⟨n, f, ha, hin, rfl⟩ := z_aI_spec hv
  exact va_iald (D := G.1) C.1.1 C.1.2.1 C.2.2.2.2.2.1 (z_P1 ((e2 a _ ha).1 _ rfl).2) 0 0 rfl rfl hin d (K H locs ls e1 e2 e3 e4)
theorem z_aald (C : z_Cx p l s m args meth c cc nL own ret G lo t0) (hv : z_aR h a i = some b) (d : decode cc pc = .ok (.aaload, 1)) (K : z_R p l e R s m args below meth c G lo nL cells slots Q (pc + 1) lv (.ref b :: st) h nx) : z_R p l e R s m args below meth c G lo nL cells slots Q pc lv (.int i :: .ref a :: st) h nx := by
  intro H locs ls e1 e2 e3 e4
  obtain ⟨n, f, ha, hin, hf⟩ := z_aR_spec hv
  refine va_aldq (D := G.1) C.1.1 C.1.2.1 C.2.2.2.2.2.1 (z_P1 ((e2 a _ ha).1 _ rfl).2) 0 1 rfl rfl hin d ?_
  rw [hf]
  exact K H locs ls e1 e2 e3 e4
theorem z_iast (C : z_Cx p l s m args meth c cc nL own ret G lo t0) (hv : z_sI h a i x = some h1) (d : decode cc pc = .ok (.iastore, 1)) (K : z_R p l e R s m args below meth c G lo nL cells slots Q (pc + 1) lv st h1 nx) : z_R p l e R s m args below meth c G lo nL cells slots Q pc lv (.int x :: .int i :: .ref a :: st) h nx := by
  intro H locs ls e1 e2 e3 e4
  obtain ⟨n, f, ha, hin, rfl⟩ := z_sI_spec hv
  have hK : va_K G.1 vwCl (z_tys G) s := C.2.2.2.2.2.1
  have hat := (e2 a _ ha).1 _ rfl
  refine W.iast C.1.1 C.1.2.1 (cell := vp_cell (G.2 0) (n, .inl f)) hat.2 ((hK.2 0 _ rfl).1 n (fun j => .int (f j))) (fun q => by cases q) (by show ¬ (i < 0 ∨ (arrV _ _ _).slots.size ≤ _); rw [arrV_size]; exact hin) rfl rfl d fun H1 w z oq => ?_
  refine K H1 _ ls (z.trans e1) (z_upd e2 ha rfl rfl ?_ oq) (e3.put z oq hat.1) e4
  show H1[a]? = some (vp_cell _ _)
  rw [w, vp_cell_i, vp_cell_i, arrV_store]
  congr 2
  funext q
  by_cases hq : q = i.toNatClampNeg
  · subst hq
    simp [updV, upd]
  · simp [updV, upd, hq]
theorem z_aastN (C : z_Cx p l s m args meth c cc nL own ret G lo t0) (hv : z_sR h a i none = some h1) (d : decode cc pc = .ok (.aastore, 1)) (K : z_R p l e R s m args below meth c G lo nL cells slots Q (pc + 1) lv st h1 nx) : z_R p l e R s m args below meth c G lo nL cells slots Q pc lv (.null :: .int i :: .ref a :: st) h nx := by
  intro H locs ls e1 e2 e3 e4
  obtain ⟨n, f, ha, hin, rfl⟩ := z_sR_spec hv
  have hK : va_K G.1 vwCl (z_tys G) s := C.2.2.2.2.2.1
  have hat := (e2 a _ ha).1 _ rfl
  refine va_WaastN (C := "java/lang/Object") C.1.1 C.1.2.1 (cell := vp_cell (G.2 1) (n, .inr (.inr (.inr (.inr f))))) hat.2 ((hK.2 1 _ rfl).1 n (fun j => va_rf (f j))) (fun h => by cases h) (by show ¬ (i < 0 ∨ (arrV _ _ _).slots.size ≤ _); rw [arrV_size]; exact hin) rfl rfl d fun H1 w z oq => ?_
  refine K H1 _ ls (z.trans e1) (z_upd e2 ha rfl rfl ?_ oq) (e3.put z oq hat.1) e4
  show H1[a]? = some (vp_cell _ _)
  rw [w, vp_cell_q, vp_cell_q, arrV_store]
  congr 2
  funext q
  by_cases hq : q = i.toNatClampNeg
  · subst hq
    simp [updV, va_up, va_rf]
  · simp [updV, va_up, hq]
theorem z_aast (C : z_Cx p l s m args meth c cc nL own ret G lo t0) (hv : z_sR h a i (some b) = some h1) {u : Unit} (hb : z_ck h b ci = some u) (hc : vwCl[ci]? = some (Cn, T, N)) (hw : Cond.castable Cn "java/lang/Object" ∈ z_ws) (d : decode cc pc = .ok (.aastore, 1)) (K : z_R p l e R s m args below meth c G lo nL cells slots Q (pc + 1) lv st h1 nx) : z_R p l e R s m args below meth c G lo nL cells slots Q pc lv (.ref b :: .int i :: .ref a :: st) h nx := by
  intro H locs ls e1 e2 e3 e4
  obtain ⟨n, f, ha, hin, rfl⟩ := z_sR_spec hv
  obtain ⟨fs, hb⟩ := z_ck_spec hb
  have hK : va_K G.1 vwCl (z_tys G) s := C.2.2.2.2.2.1
  have hat := (e2 a _ ha).1 _ rfl
  obtain ⟨r', hr', cellV, g1, g2, g3, -⟩ := ((e2 b _ hb).1 _ rfl).2
  have hcls := (hK.1 ci _ hc).2
  obtain ⟨kA, comp, k1, k2, k3, -⟩ := (hK.2 1 _ rfl).2
  obtain ⟨c3, c4, hc3, hc4, hasg⟩ := Cond.castable_spec (va_Nw.use (A := args) rfl (C.2.2.2.2.2.2.2.1 _ hw))
  obtain ⟨kC, hkC, -⟩ := hcls.2
  have e5 : c3 = G.1.1 ci := Option.some.inj (hc3.symm.trans hcls.1)
  have e6 : c4 = comp := Option.some.inj (hc4.symm.trans k3)
  subst e5 e6
  obtain ⟨kc4, hkc4, -⟩ := Vm.findClass_spec hc4
  have hlt : i.toNatClampNeg < n := Nat.not_le.mp fun q => hin (Or.inr q)
  have h0 : ¬ i < 0 := fun q => hin (Or.inl q)
  refine W.aast C.1.1 C.1.2.1 (cell := vp_cell (G.2 1) (n, .inr (.inr (.inr (.inr f))))) hat.2 (fun q h => by cases h) (fun h => by cases h) k1 k2 rfl hkc4 ⟨h0, by show _ < (arrV _ _ _).slots.size; rw [arrV_size]; exact hlt⟩ g1 (fun q h => by rw [g3] at h; cases h) (by rw [g2]; exact hkC) (by rw [g2]; exact hasg) rfl rfl d fun H1 w z oq => ?_
  refine K H1 _ ls (z.trans e1) (z_upd e2 ha rfl rfl ?_ oq) (e3.put z oq hat.1) e4
  show H1[a]? = some (vp_cell _ _)
  rw [w, vp_cell_q, vp_cell_q, arrV_store]
  congr 2
  funext q
  by_cases hq : q = i.toNatClampNeg
  · subst hq
    simp [updV, va_up, va_rf]
  · simp [updV, va_up, hq]
theorem z_alen (C : z_Cx p l s m args meth c cc nL own ret G lo t0) (hv : z_al h a = some x) (d : decode cc pc = .ok (.arraylength, 1)) (K : z_R p l e R s m args below meth c G lo nL cells slots Q (pc + 1) lv (.int x :: st) h nx) : z_R p l e R s m args below meth c G lo nL cells slots Q pc lv (.ref a :: st) h nx := by
  intro H locs ls e1 e2 e3 e4
  have hK : va_K G.1 vwCl (z_tys G) s := C.2.2.2.2.2.1
  unfold z_al at hv
  split at hv
  · rename_i r ha
    by_cases ht : r.1 < 3
    · rw [if_pos ht] at hv
      cases hv
      have hat := ((e2 a _ ha).1 _ rfl).2
      obtain ⟨ty, hty⟩ : ∃ ty, (z_tys G)[r.1]? = some (G.2 r.1, ty) := by
        rcases (show r.1 = 0 ∨ r.1 = 1 ∨ r.1 = 2 by omega) with h | h | h <;> rw [h] <;> exact ⟨_, rfl⟩
      exact va_alen (D := G.1) C.1.1 C.1.2.1 hK (z_P1 hat) 0 r.1 rfl hty rfl d (K H locs ls e1 e2 e3 e4)
    · rw [if_neg ht] at hv; cases hv
  · rename_i ha
    cases hv
    obtain ⟨cell, t1, t2, t3, t4, t5, t6, t7⟩ := (e2 a _ ha).2 rfl
    exact W.alen C.1.1 C.1.2.1 t1 t2 t5 rfl rfl d (K H locs ls e1 e2 e3 e4)
  · cases hv
theorem z_new (C : z_Cx p l s m args meth c cc nL own ret G lo t0) (fs : List Value) (hc : vwCl[ci]? = some (Cn, T, N)) (hin : ∀ w ∈ u_ws Cn T N, w ∈ wsL_law) (ty0 : Nat → FieldType) (hty : ∀ k, k < N → parseFieldDescriptor (T k).2.2.1 = some (ty0 k)) (w1 : Cond.classLink own ix Cn ∈ wsL_law) (w2 : Cond.instantiable Cn N ∈ wsL_law) (w3 : Cond.initialized Cn ∈ wsL_law) (hfs : ∀ j, j < N → defaultValue (ty0 j) = vp_V fs j) (hcells : cells + 1 ≤ R.cells) (hslots : slots + N ≤ R.slots) (d : decode cc pc = .ok (.new ix, 3)) (K : z_R p l e R s m args below meth c G lo nL (cells + 1) (slots + N) Q (pc + 3) lv (.ref nx :: st) (z_up h nx (zO ci fs)) (nx + 1)) : z_R p l e R s m args below meth c G lo nL cells slots Q pc lv st h nx := by
  intro H locs ls e1 e2 e3 e4
  have hts := C.1.2.2.2.2
  have hK : va_K G.1 vwCl (z_tys G) s := C.2.2.2.2.2.1
  have hKn := hK.1 ci _ hc
  have hlo : lo ≤ nx := by rw [← e1]; exact Nat.le_trans C.2.2.2.2.1 e3.1
  refine W.newcK C.1.1 C.1.2.1 C.1.2.2.2.1 (hts _ w1) (hts _ w2) (hts _ w3) rfl d hcells hslots hKn.2.1 e1 fun H1 kC hkC q1 z1 o1 => ?_
  refine K H1 locs ls z1 (z_newhp e2 e1 hlo rfl ⟨_, hc, (u_born ty0 hts hin hKn hkC q1 hty).to hfs⟩ o1) ⟨by rw [z1, ← e1]; exact Nat.le_succ_of_le e3.1, fun x h1 h2 => (o1 x (by rw [← e1]; exact Nat.lt_of_lt_of_le h1 e3.1)).trans (e3.2.1 x h1 h2), e3.2.2⟩ e4
theorem z_newI (C : z_Cx p l s m args meth c cc nL own ret G lo t0) {n : Int32} {n' : Nat} (w1 : Cond.arrayClass .int ∈ wsL_law) (hn : ¬ n < 0) (hN : n.toNatClampNeg = n') (hb : n' * 4 ≤ 536870912) (hcells : cells + 1 ≤ R.cells) (hslots : slots + n' ≤ R.slots) (d : decode cc pc = .ok (.newarray .int, 2)) (K : z_R p l e R s m args below meth c G lo nL (cells + 1) (slots + n') Q (pc + 2) lv (.ref nx :: st) (z_up h nx (zI n' (fun _ => 0))) (nx + 1)) : z_R p l e R s m args below meth c G lo nL cells slots Q pc lv (.int n :: st) h nx := by
  intro H locs ls e1 e2 e3 e4
  have hK : va_K G.1 vwCl (z_tys G) s := C.2.2.2.2.2.1
  have hlo : lo ≤ nx := by rw [← e1]; exact Nat.le_trans C.2.2.2.2.1 e3.1
  refine va_newaK (atype := .int) C.1.1 C.1.2.1 (C.1.2.2.2.2 _ w1) rfl d rfl hn hN hb hcells hslots e1 fun H1 cA q1 z1 o1 hAr hNm => ?_
  have hcA : cA = G.2 0 := Option.some.inj (hNm.symm.trans (hK.2 0 _ rfl).2)
  subst hcA
  exact K H1 locs ls z1 (z_newhp e2 e1 hlo rfl q1 o1) ⟨by rw [z1, ← e1]; exact Nat.le_succ_of_le e3.1, fun x h1 h2 => (o1 x (by rw [← e1]; exact Nat.lt_of_lt_of_le h1 e3.1)).trans (e3.2.1 x h1 h2), e3.2.2⟩ e4
theorem z_newQ (C : z_Cx p l s m args meth c cc nL own ret G lo t0) {n : Int32} {n' : Nat} (w1 : Cond.classLink own ix "java/lang/Object" ∈ wsL_law) (hn : ¬ n < 0) (hN : n.toNatClampNeg = n') (hb : n' * 4 ≤ 536870912) (hcells : cells + 1 ≤ R.cells) (hslots : slots + n' ≤ R.slots) (d : decode cc pc = .ok (.anewarray ix, 3)) (K : z_R p l e R s m args below meth c G lo nL (cells + 1) (slots + n') Q (pc + 3) lv (.ref nx :: st) (z_up h nx (zQ n' (fun _ => none))) (nx + 1)) : z_R p l e R s m args below meth c G lo nL cells slots Q pc lv (.int n :: st) h nx := by
  intro H locs ls e1 e2 e3 e4
  subst hN
  subst e1
  have hK : va_K G.1 vwCl (z_tys G) s := C.2.2.2.2.2.1
  have hlo : lo ≤ H.size := Nat.le_trans C.2.2.2.2.1 e3.1
  refine W.anew C.1.1 C.1.2.1 C.1.2.2.2.1 (C.1.2.2.2.2 _ w1) (va_AO.use C.2.2.2.2.2.2.2.2.2.2.1) rfl d rfl hn hb hcells hslots fun cA kA comp f1 f2 f3 f4 => ?_
  obtain ⟨kA2, comp2, k1, k2, k3, k4⟩ := (hK.2 1 _ rfl).2
  have hcA : cA = G.2 1 := Option.some.inj (f1.symm.trans k4)
  subst hcA
  generalize hH1 : H.push ({ cls := G.2 1, slots := Array.replicate n.toNatClampNeg .null, vm := .none } : Cell) = H1
  have z1 : H1.size = H.size + 1 := by rw [← hH1, Array.size_push]
  have q1 : H1[H.size]? = some (arrV (G.2 1) n.toNatClampNeg (fun _ => .null)) := by rw [← hH1, Array.getElem?_push_size, ← arrV_new]
  have o1 : ∀ q : Nat, q < H.size → H1[q]? = H[q]? := fun q hq => by rw [← hH1, Array.getElem?_push, if_neg (Nat.ne_of_lt hq)]
  exact K H1 locs ls z1 (z_newhp e2 rfl hlo rfl q1 o1) ⟨by rw [z1]; exact Nat.le_succ_of_le e3.1, fun x h1 h2 => (o1 x (Nat.lt_of_lt_of_le h1 e3.1)).trans (e3.2.1 x h1 h2), e3.2.2⟩ e4
theorem z_cast (C : z_Cx p l s m args meth c cc nL own ret G lo t0) {u : Unit} (hb : z_ck h b ci = some u) (hc : vwCl[ci]? = some (Cn, T, N)) (w1 : Cond.classLink own ix Cn ∈ wsL_law) (d : decode cc pc = .ok (.checkcast ix, 3)) (K : z_R p l e R s m args below meth c G lo nL cells slots Q (pc + 3) lv (.ref b :: st) h nx) : z_R p l e R s m args below meth c G lo nL cells slots Q pc lv (.ref b :: st) h nx := by
  intro H locs ls e1 e2 e3 e4
  have hK : va_K G.1 vwCl (z_tys G) s := C.2.2.2.2.2.1
  obtain ⟨fs, hb⟩ := z_ck_spec hb
  exact va_castS C.1.1 C.1.2.1 C.1.2.2.2.1 (C.1.2.2.2.2 _ w1) (hK.1 ci _ hc).2 (va_recv hK (z_P1 ((e2 b _ hb).1 _ rfl).2) hc (q0 := 0) rfl) d (K H locs ls e1 e2 e3 e4)
theorem z_gets (C : z_Cx p l s m args meth c cc nL own ret G lo t0) (w1 : Cond.fieldLink own ix "java/util/ArrayList" "DEFAULTCAPACITY_EMPTY_ELEMENTDATA" "[Ljava/lang/Object;" ∈ wsL_law) (d : decode cc pc = .ok (.getstatic ix, 3)) (K : z_R p l e R s m args below meth c G lo nL cells slots Q (pc + 3) lv (.ref t0 :: st) h nx) : z_R p l e R s m args below meth c G lo nL cells slots Q pc lv st h nx := by
  intro H locs ls e1 e2 e3 e4
  exact va_gets C.1.1 C.1.2.1 C.2.2.2.2.2.2.1.1 e3 C.1.2.2.2.1 (C.1.2.2.2.2 _ w1) (fun _ h9 => h9) d (K H locs ls e1 e2 e3 e4)
theorem z_max {y : Int32} (C : z_Cx p l s m args meth c cc nL own ret G lo t0) (w1 : Cond.methodLink own ix Lib.Math.max.name ∈ wsL_law) (w2 : Cond.static Lib.Math.max.name ∈ wsL_law) (w3 : Cond.initialized "java/lang/Math" ∈ wsL_law) (w4 : Cond.code Lib.Math.max.name Lib.Math.max.code 2 (some .int) ∈ wsL_law) (hfr : 1 ≤ R.frames) (hlc : (st.map fun v => v.category).sum + 13 ≤ R.locals) (hcl : cells ≤ R.cells) (hsl : slots ≤ R.slots) (d : decode cc pc = .ok (.invokestatic ix, 3)) (K : z_R p l e R s m args below meth c G lo nL cells slots Q (pc + 3) lv (.int (if x < y then y else x) :: st) h nx) : z_R p l e R s m args below meth c G lo nL cells slots Q pc lv (.int y :: .int x :: st) h nx := by
  intro H locs ls e1 e2 e3 e4
  have hts := C.1.2.2.2.2
  exact va_mmax C.1.1 C.1.2.1 (C.1.2.2.1.trans e4.1.symm) C.1.2.2.2.1 (hts _ w1) (hts _ w2) (hts _ w3) (hts _ w4) hfr hlc hcl hsl d (K H locs ls e1 e2 e3 e4)
theorem z_min {y : Int32} (C : z_Cx p l s m args meth c cc nL own ret G lo t0) (w1 : Cond.methodLink own ix Lib.Math.min.name ∈ wsL_law) (w2 : Cond.static Lib.Math.min.name ∈ wsL_law) (w3 : Cond.initialized "java/lang/Math" ∈ wsL_law) (w4 : Cond.code Lib.Math.min.name Lib.Math.min.code 2 (some .int) ∈ wsL_law) (hfr : 1 ≤ R.frames) (hlc : (st.map fun v => v.category).sum + 13 ≤ R.locals) (hcl : cells ≤ R.cells) (hsl : slots ≤ R.slots) (d : decode cc pc = .ok (.invokestatic ix, 3)) (K : z_R p l e R s m args below meth c G lo nL cells slots Q (pc + 3) lv (.int (if y < x then y else x) :: st) h nx) : z_R p l e R s m args below meth c G lo nL cells slots Q pc lv (.int y :: .int x :: st) h nx := by
  intro H locs ls e1 e2 e3 e4
  have hts := C.1.2.2.2.2
  exact va_mmin C.1.1 C.1.2.1 (C.1.2.2.1.trans e4.1.symm) C.1.2.2.2.1 (hts _ w1) (hts _ w2) (hts _ w3) (hts _ w4) hfr hlc hcl hsl d (K H locs ls e1 e2 e3 e4)
theorem z_obj (C : z_Cx p l s m args meth c cc nL own ret G lo t0) (w1 : Cond.methodLink own ix objectInit ∈ wsL_law) (w2 : Cond.instanceMethod objectInit ∈ wsL_law) (w3 : Cond.code objectInit ⟨#[0xb1]⟩ 1 none ∈ wsL_law) (hfr : 1 ≤ R.frames) (hlc : (st.map fun v => v.category).sum + 12 ≤ R.locals) (d : decode cc pc = .ok (.invokespecial ix, 3)) (K : z_R p l e R s m args below meth c G lo nL cells slots Q (pc + 3) lv st h nx) : z_R p l e R s m args below meth c G lo nL cells slots Q pc lv (.ref a :: st) h nx := by
  intro H locs ls e1 e2 e3 e4
  have hts := C.1.2.2.2.2
  exact W.objInit C.1.1 C.1.2.1 C.1.2.2.2.1 (hts _ w1) (hts _ w2) (hts _ w3) rfl (by rw [C.1.2.2.1]; exact e4.1) rfl d hfr (by show 2 * 0 + _ + 12 ≤ _; omega) (K H locs ls e1 e2 e3 e4)
end ZM
end
section
theorem z_met {l : Launch} {y : MethodName} {ws : List Cond} {rm : Room} {Pc : Array Value → State → Prop} {Qc : Array Value → State → Outcome → State → Prop} {XC : String → State → State → Prop} {mc ms : Nat} {free : Addr → Prop} (hM : vx_Met l y ws rm Pc Qc XC mc ms free) (hX : ∀ E st t, ¬ XC E st t) : Met l y ws rm Pc Qc mc ms free := by
  intro p e ha hc hk s m args below hf happ hP hK
  obtain ⟨n, o, h1, h2, h3, h4⟩ := hM p e ha hc hk s m args below hf happ hP hK
  refine ⟨n, o, h1, h2, h3, ?_⟩
  rcases h4 with h4 | ⟨q, -, E, ce, L, hx, -⟩
  · exact h4
  · exact absurd hx (hX _ _ _)
theorem z_noX {G : zG} {lo : Nat} {w : Option Value × zH × Nat} : ∀ E st t, ¬ z_qx G lo (.inr w) E st t := by
  rintro E st t ⟨h1, q, -⟩
  cases q
section ZCALL
variable {p : Program} {l : Launch} {e : Env} {R : Room} {s : State} {m : MethodId} {args : Array Value} {below : List Frame} {meth : Method} {c : Code} {G : zG} {lo t0 nL cells slots : Nat} {Q : State → Prop} {pc : Nat} {lv lv' : List (Nat × Value)} {st rest stk : List Value} {h h1 : zH} {nx n1 : Nat} {cc : ByteArray} {own : String} {ret : Option FieldType}
variable {Cn : String} {T : u_T} {N ci ix n b maxL fr lc mc ms : Nat} {y : MethodName} {bytes : ByteArray} {rt : Option FieldType} {As : List Value} {oo : zV} {v : Option Value} {E : String}
/-- a call, from any heap of the point -/
def z_Ca (p : Program) (l : Launch) (e : Env) (R : Room) (s : State) (m : MethodId) (args : Array Value) (below : List Frame) (meth : Method) (c : Code) (G : zG) (lo nL cells slots mc ms pc : Nat) (lv : List (Nat × Value)) (stk rest : List Value) (h : zH) (nx : Nat) (oo : zV) : Prop :=
  ∀ (H : Heap) (locs : List Loc) (ls : Array Slot), H.size = nx → z_hp G lo s h H → va_S (fun z : Nat => lo ≤ z) s.heap H locs → lv_has ls nL lv → ∃ a : Array Value, vx_Run p l e R s m args below meth c H locs cells slots mc ms (F0 m pc ls stk) rest (z_qn G lo oo a) (z_qx G lo oo) (fun z : Nat => lo ≤ z)
theorem z_goN {kc ks : Nat} (st' : List Value) (hr : z_Ca p l e R s m args below meth c G lo nL cells slots mc ms pc lv stk rest h nx (.inr (v, h1, n1))) (hst : v.toList ++ rest = st') (hkc : cells + mc ≤ kc) (hks : slots + ms ≤ ks) (K : z_R p l e R s m args below meth c G lo nL kc ks Q (pc + 3) lv st' h1 n1) : z_R p l e R s m args below meth c G lo nL cells slots Q pc lv stk h nx := by
  intro H locs ls e1 e2 e3 e4 T hT X
  obtain ⟨a, hr⟩ := hr H locs ls e1 e2 e3 e4
  subst hst
  rcases hr T hT X with ⟨v', st₀, t, T', L, h0, X', hL, k1, k2, ⟨v9, h9, n9, q1, q2, q3, q4, hF⟩, go⟩ | ⟨q, st₀, t, T', L, E, ce, h0, X', hL, k1, k2, ⟨h9, q1, -⟩, -⟩
  · cases q1
    cases q2
    obtain ⟨-, -, k3⟩ := vx_keep h0 k1 e3 (fun _ _ h => h) (fun _ h => h) hL hF
    have hal : s.vm.Alike t.vm := by rw [← k2]; exact X'.warmed.alike
    obtain ⟨t2, a1, b1⟩ := K T'.heap (locs ++ L) ls (by rw [k1]; exact q3) (by rw [k1]; exact q4.moved hal.symm) k3 e4 T' rfl (stand_widen X' hkc hks)
    exact ⟨t2, go t2 a1, b1⟩
  · cases q1
/-- what the callee throws goes on to the caller -/
theorem z_goX (C : z_Cx p l s m args meth c cc nL own ret G lo t0) {k1 k2 : Nat} (hr : z_Ca p l e R s m args below meth c G lo nL cells slots mc ms pc lv stk rest h nx (.inl (E, h1))) (hc : cells + mc ≤ k1) (hs : slots + ms ≤ k2) : z_R p l e R s m args below meth c G lo nL cells slots (vx_MQ below (z_qn G lo (.inl (E, h1))) (z_qx G lo (.inl (E, h1))) args s k1 k2 (fun z : Nat => lo ≤ z)) pc lv stk h nx := by
  intro H locs ls e1 e2 e3 e4 T hT X
  obtain ⟨a, hr⟩ := hr H locs ls e1 e2 e3 e4
  rcases hr T hT X with ⟨v', st₀, t, T', L, h0, X', hL, k1, k2, ⟨v9, h9, n9, q1, -⟩, go⟩ | ⟨q, st₀, t, T', L, E', ce, h0, X', hL, k1, k2, ⟨h9, q1, q2, hF⟩, hce, hcv, hcl, stp⟩
  · cases q1
  · cases q1
    obtain ⟨-, -, k3⟩ := vx_keep h0 k1 e3 (fun _ _ h => h) (fun _ h => h) hL hF
    have hal : s.vm.Alike t.vm := by rw [← k2]; exact X'.warmed.alike
    have K := vx_out (args := args) (m := m) (p := p) (l := l) (e := e) (R := R) (below := below) (Qc := z_qn G lo (.inl (E, h1))) (XC := z_qx G lo (.inl (E, h1))) (free := fun z : Nat => lo ≤ z) (pc := pc) (ls := ls) (rest := rest) (H := T'.heap) (locs := locs ++ L) (q := q) (fun x hx => (C.2.2.2.1 x hx).elim) C.2.2.1 (by rw [k1]; exact hce) hcv hcl (fun t2 ht2 hal2 => ⟨h1, rfl, by rw [ht2, k1]; exact q2.moved (hal.symm.trans hal2), k3.F ht2⟩) k3.2.2 hc hs
    obtain ⟨t2, a1, b1⟩ := K T' rfl X'
    exact ⟨t2, stp.trans a1, b1⟩
theorem z_callV (C : z_Cx p l s m args meth c cc nL own ret G lo t0) (hM : z_Met l y bytes maxL rt fr lc G lo t0 (.ref b :: As) h nx oo mc ms) {u : Unit} (hq : z_ck h b ci = some u) (hc : vwCl[ci]? = some (Cn, T, N)) (w1 : Cond.methodLink own ix y ∈ wsL_law) (w2 : Cond.instanceMethod y ∈ wsL_law) (w3 : Cond.selects Cn y y ∈ wsL_law) (w4 : Cond.initialized Cn ∈ wsL_law) (w5 : Cond.code y bytes maxL rt ∈ wsL_law) (hd : y.cls = Cn ∧ y.cls ≠ "java/lang/invoke/MethodHandle" ∧ y.cls ≠ "java/lang/invoke/VarHandle" ∧ (parseMethodDescriptor y.desc).map (fun d => d.parameters.length) = some n) (hR : fr + 1 ≤ R.frames ∧ 8 + (maxL + 11) + lc ≤ R.locals) (hn : As.length = n) (hcat : (rest.map fun v => v.category).sum ≤ 8) (d : decode cc pc = .ok (.invokevirtual ix, 3)) (hf : cells + mc ≤ R.cells ∧ slots + ms ≤ R.slots) : z_Ca p l e R s m args below meth c G lo nL cells slots mc ms pc lv (As.reverse ++ .ref b :: rest) rest h nx oo := by
  intro H locs ls e1 e2 e3 e4
  obtain ⟨fs, hb⟩ := z_ck_spec hq
  have hK : va_K G.1 vwCl (z_tys G) s := C.2.2.2.2.2.1
  have hts := C.1.2.2.2.2
  exact ⟨_, vx_runV C.1 hM (cwV n hts (WL_cons w1 (WL_cons w2 (WL_cons w3 (WL_cons w4 (WL_cons w5 WL_in))))) rfl rfl rfl hd hR) ⟨z_blind, va_recv hK (z_P1 ((e2 b _ hb).1 _ rfl).2) hc (q0 := 0) rfl, fun U hU hW => ⟨rfl, z_pre C e1 e2 e3 U hU hW⟩⟩ rfl hn e4.1 rfl (lv_room hcat) d hf⟩
theorem z_callS (C : z_Cx p l s m args meth c cc nL own ret G lo t0) (hM : z_Met l y bytes maxL rt fr lc G lo t0 As h nx oo mc ms) (w1 : Cond.methodLink own ix y ∈ wsL_law) (w2 : Cond.static y ∈ wsL_law) (w4 : Cond.initialized y.cls ∈ wsL_law) (w5 : Cond.code y bytes maxL rt ∈ wsL_law) (hd : y.cls ≠ "java/lang/invoke/MethodHandle" ∧ y.cls ≠ "java/lang/invoke/VarHandle" ∧ (parseMethodDescriptor y.desc).map (fun d => d.parameters.length) = some n) (hR : fr + 1 ≤ R.frames ∧ 8 + (maxL + 11) + lc ≤ R.locals) (hn : As.length = n) (hcat : (rest.map fun v => v.category).sum ≤ 8) (d : decode cc pc = .ok (.invokestatic ix, 3)) (hf : cells + mc ≤ R.cells ∧ slots + ms ≤ R.slots) : z_Ca p l e R s m args below meth c G lo nL cells slots mc ms pc lv (As.reverse ++ rest) rest h nx oo := by
  intro H locs ls e1 e2 e3 e4
  have hts := C.1.2.2.2.2
  exact ⟨_, vx_runS C.1 hM (va_cwS n hts (WL_cons w1 (WL_cons w2 (WL_cons w4 (WL_cons w5 WL_in)))) rfl rfl rfl hd hR) ⟨z_blind, fun U hU hW => ⟨rfl, z_pre C e1 e2 e3 U hU hW⟩⟩ rfl hn e4.1 rfl (lv_room hcat) d hf⟩
theorem z_callSN {host : String} {w : Option Value × zH × Nat} (C : z_Cx p l s m args meth c cc nL own ret G lo t0) (hM : z_Met l y bytes maxL rt fr lc G lo t0 As h nx (.inr w) mc ms) (w1 : va_Nw (.methodLinkNest own ix y host) s) (w2 : Cond.static y ∈ wsL_law) (w4 : Cond.initialized y.cls ∈ wsL_law) (w5 : Cond.code y bytes maxL rt ∈ wsL_law) (hd : y.cls ≠ "java/lang/invoke/MethodHandle" ∧ y.cls ≠ "java/lang/invoke/VarHandle" ∧ (parseMethodDescriptor y.desc).map (fun d => d.parameters.length) = some n) (hR : fr + 1 ≤ R.frames ∧ 8 + (maxL + 11) + lc ≤ R.locals) (hn : As.length = n) (hcat : (rest.map fun v => v.category).sum ≤ 8) (d : decode cc pc = .ok (.invokestatic ix, 3)) (hf : cells + mc ≤ R.cells ∧ slots + ms ≤ R.slots) : z_Ca p l e R s m args below meth c G lo nL cells slots mc ms pc lv (As.reverse ++ rest) rest h nx (.inr w) := by
  intro H locs ls e1 e2 e3 e4
  have hts := C.1.2.2.2.2
  exact ⟨_, fun T hT X => Or.inl (va_runSN C.1 (z_met hM z_noX) ⟨va_cnB n hts (WL_cons w5 WL_in) rfl rfl rfl w1 (hts _ w4) hd hR, hts _ w2, trivial⟩ ⟨z_blind, fun U hU hW => ⟨rfl, z_pre C e1 e2 e3 U hU hW⟩⟩ rfl hn e4.1 rfl (lv_room hcat) d hf T hT X)⟩
theorem z_callI {w : Option Value × zH × Nat} (C : z_Cx p l s m args meth c cc nL own ret G lo t0) (hM : z_Met l y bytes maxL none fr lc G lo t0 (.ref b :: As) h nx (.inr w) mc ms) (hy : y.name = "<init>") (w1 : Cond.methodLink own ix y ∈ wsL_law) (w2 : Cond.instanceMethod y ∈ wsL_law) (w4 : Cond.initialized y.cls ∈ wsL_law) (w5 : Cond.code y bytes maxL none ∈ wsL_law) (hd : y.cls ≠ "java/lang/invoke/MethodHandle" ∧ y.cls ≠ "java/lang/invoke/VarHandle" ∧ (parseMethodDescriptor y.desc).map (fun d => d.parameters.length) = some n) (hR : fr + 1 ≤ R.frames ∧ 8 + (maxL + 11) + lc ≤ R.locals) (hn : As.length = n) (hcat : (rest.map fun v => v.category).sum ≤ 8) (d : decode cc pc = .ok (.invokespecial ix, 3)) (hf : cells + mc ≤ R.cells ∧ slots + ms ≤ R.slots) : z_Ca p l e R s m args below meth c G lo nL cells slots mc ms pc lv (As.reverse ++ .ref b :: rest) rest h nx (.inr w) := by
  intro H locs ls e1 e2 e3 e4
  have hts := C.1.2.2.2.2
  exact ⟨_, fun T hT X => Or.inl (va_runI C.1 (z_met hM z_noX) (cwI n hts (WL_cons w5 WL_in) rfl rfl rfl (hts _ w4) (hts _ w1) (hts _ w2) hy hd hR) ⟨z_blind, fun U hU hW => ⟨rfl, z_pre C e1 e2 e3 U hU hW⟩⟩ rfl hn e4.1 rfl (lv_room hcat) d hf T hT X)⟩
end ZCALL
section ZRET
variable {p : Program} {l : Launch} {e : Env} {R : Room} {s : State} {m : MethodId} {args : Array Value} {below : List Frame} {meth : Method} {c : Code} {G : zG} {lo t0 nL cells slots k1 k2 : Nat} {pc : Nat} {lv : List (Nat × Value)} {h : zH} {nx : Nat} {cc : ByteArray} {own : String} {oo : zV}
theorem z_iret {x : Int32} (C : z_Cx p l s m args meth c cc nL own (some .int) G lo t0) (hoo : oo = .inr (some (.int x), h, nx)) (hc : cells ≤ k1) (hs : slots ≤ k2) (d : decode cc pc = .ok (.ireturn, 1)) : z_R p l e R s m args below meth c G lo nL cells slots (vx_MQ below (z_qn G lo oo) (z_qx G lo oo) args s k1 k2 (fun z : Nat => lo ≤ z)) pc lv [.int x] h nx := by
  intro H locs ls e1 e2 e3 e4
  refine W.widen hc hs (vx_ret ?_)
  exact W.iret C.1.1 C.1.2.1 C.2.1 (fun t ht hW => ⟨_, h, nx, hoo, rfl, by rw [ht]; exact e1, by rw [ht]; exact e2.moved hW.alike, e3.F ht⟩) e3.2.2 d C.2.2.1
theorem z_zret {x : Int32} (C : z_Cx p l s m args meth c cc nL own (some .boolean) G lo t0) (hx : x = 0 ∨ x = 1) (hoo : oo = .inr (some (.int x), h, nx)) (hc : cells ≤ k1) (hs : slots ≤ k2) (d : decode cc pc = .ok (.ireturn, 1)) : z_R p l e R s m args below meth c G lo nL cells slots (vx_MQ below (z_qn G lo oo) (z_qx G lo oo) args s k1 k2 (fun z : Nat => lo ≤ z)) pc lv [.int x] h nx := by
  intro H locs ls e1 e2 e3 e4
  refine W.widen hc hs (vx_ret ?_)
  exact W.zret C.1.1 C.1.2.1 C.2.1 (by rcases hx with rfl | rfl <;> rfl) (fun t ht hW => ⟨_, h, nx, hoo, rfl, by rw [ht]; exact e1, by rw [ht]; exact e2.moved hW.alike, e3.F ht⟩) e3.2.2 d C.2.2.1
theorem z_lret {x : Int64} (C : z_Cx p l s m args meth c cc nL own (some .long) G lo t0) (hoo : oo = .inr (some (.long x), h, nx)) (hc : cells ≤ k1) (hs : slots ≤ k2) (d : decode cc pc = .ok (.lreturn, 1)) : z_R p l e R s m args below meth c G lo nL cells slots (vx_MQ below (z_qn G lo oo) (z_qx G lo oo) args s k1 k2 (fun z : Nat => lo ≤ z)) pc lv [.long x] h nx := by
  intro H locs ls e1 e2 e3 e4
  refine W.widen hc hs (vx_ret ?_)
  exact W.lret C.1.1 C.1.2.1 C.2.1 (fun t ht hW => ⟨_, h, nx, hoo, rfl, by rw [ht]; exact e1, by rw [ht]; exact e2.moved hW.alike, e3.F ht⟩) e3.2.2 d C.2.2.1
theorem z_aret {rt : FieldType} {x : Nat} (C : z_Cx p l s m args meth c cc nL own (some rt) G lo t0) (hrt : (∃ n, rt = .object n) ∨ ∃ t, rt = .array t) (hoo : oo = .inr (some (.ref x), h, nx)) (hc : cells ≤ k1) (hs : slots ≤ k2) (d : decode cc pc = .ok (.areturn, 1)) : z_R p l e R s m args below meth c G lo nL cells slots (vx_MQ below (z_qn G lo oo) (z_qx G lo oo) args s k1 k2 (fun z : Nat => lo ≤ z)) pc lv [.ref x] h nx := by
  intro H locs ls e1 e2 e3 e4
  refine W.widen hc hs (vx_ret ?_)
  exact W.aret C.1.1 C.1.2.1 C.2.1 hrt (Or.inr ⟨_, rfl⟩) (fun t ht hW => ⟨_, h, nx, hoo, rfl, by rw [ht]; exact e1, by rw [ht]; exact e2.moved hW.alike, e3.F ht⟩) e3.2.2 d C.2.2.1
theorem z_vret (C : z_Cx p l s m args meth c cc nL own none G lo t0) (hoo : oo = .inr (none, h, nx)) (hc : cells ≤ k1) (hs : slots ≤ k2) (d : decode cc pc = .ok (.return_, 1)) : z_R p l e R s m args below meth c G lo nL cells slots (vx_MQ below (z_qn G lo oo) (z_qx G lo oo) args s k1 k2 (fun z : Nat => lo ≤ z)) pc lv [] h nx := by
  intro H locs ls e1 e2 e3 e4
  refine W.widen hc hs (vx_ret ?_)
  exact W.vret C.1.1 C.1.2.1 C.2.1 (fun t ht hW => ⟨_, h, nx, hoo, rfl, by rw [ht]; exact e1, by rw [ht]; exact e2.moved hW.alike, e3.F ht⟩) e3.2.2 d C.2.2.1
theorem z_throw {cls text : String} {names : List String} {ik is ic : Nat} {rest : List Value} {ret : Option FieldType} (C : z_Cx p l s m args meth c cc nL own ret G lo t0) (hl : l.stackTraces = false) (hcls : Bundle.fit cls = true) (hnames : ∀ n ∈ names, Bundle.fit n = true) (w1 : Cond.classLink own ik cls ∈ wsL_law) (w2 : Cond.initialized cls ∈ wsL_law) (hstr : (own, is, text) ∈ z_ss) (hg : ∀ w ∈ (vx_atS own ic cls names).filter goodWord, w ∈ wsL_law) (hb : ∀ w ∈ (vx_atS own ic cls names).filter (fun w => !goodWord w), w ∈ Cond.castable cls cls :: z_ds) (hca : Cond.castable cls cls ∈ z_ws)
    (hgood : ∀ w ∈ Cond.classLink own ik cls :: Cond.initialized cls :: vx_atS own ic cls names, vx_ot w = true)
    (d0 : decode cc pc = .ok (.new ik, 3)) (d3 : decode cc (pc + 3) = .ok (.dup, 1)) (d4 : decode cc (pc + 4) = .ok (.ldc is, 2)) (d6 : decode cc (pc + 6) = .ok (.invokespecial ic, 3)) (d9 : decode cc (pc + 9) = .ok (.athrow, 1))
    (hRf : names.length + 3 < R.frames) (hRl : (rest.map fun v => v.category).sum + (13 * (names.length + 1) + 43) ≤ R.locals) (hRc : cells + 1 ≤ R.cells) (hRs : slots + 6 ≤ R.slots) (hoo : oo = .inl (cls, h)) (hc : cells + 1 ≤ k1) (hs : slots + 6 ≤ k2) : z_R p l e R s m args below meth c G lo nL cells slots (vx_MQ below (z_qn G lo oo) (z_qx G lo oo) args s k1 k2 (fun z : Nat => lo ≤ z)) pc lv rest h nx := by
  intro H locs ls e1 e2 e3 e4
  have hts := C.1.2.2.2.2
  obtain ⟨sa, hsa⟩ := C.2.2.2.2.2.2.2.2.2.2.2.1 _ hstr
  have hcw : (Cond.castable cls cls).before args s = true := va_Nw.use (A := args) rfl (C.2.2.2.2.2.2.2.1 _ hca)
  refine vx_throwS C.1.1 C.1.2.1 hl C.1.2.2.2.1 hcls hnames (hts _ w1) (hts _ w2) hsa (vx_hat (B := Cond.castable cls cls :: z_ds) (fun w hw => hts w (hg w hw)) hb (vx_c hcw (fun w hw => by obtain ⟨y, rfl⟩ := z_ds_declares w hw; exact va_Nw.use (A := args) rfl (C.2.2.2.2.2.2.2.2.2.2.2.2 _ hw)))) hgood C.2.2.2.2.2.2.1.2.1 C.2.2.2.2.2.2.1.2.2 e3 (e4.1.trans C.1.2.2.1.symm) d0 d3 d4 d6 d9 (fun x hx => (C.2.2.2.1 x hx).elim) hRf hRl hRc hRs C.2.2.1 (fun t hal hz hk => ⟨h, hoo, ?_, ?_⟩) e3.2.2 hc hs
  · intro q c hq
    refine ⟨fun e he => ⟨((e2 q c hq).1 e he).1, ((e2 q c hq).1 e he).2.kept (hk q ((e2 q c hq).1 e he).2.lt)⟩, fun he => ?_⟩
    exact va_T.moved hal (va_T.kept ((e2 q c hq).2 he) (fun b hb _ => hk b hb))
  · exact ⟨Nat.le_trans e3.1 hz, fun q h1 h2 => (hk q (Nat.lt_of_lt_of_le h1 e3.1)).trans (e3.2.1 q h1 h2)⟩
theorem z_throwW {cls text : String} {names : List String} {ik is ic : Nat} {rest : List Value} {ret : Option FieldType} (C : z_Cx p l s m args meth c cc nL own ret G lo t0) (hl : l.stackTraces = false) (hcls : Bundle.fit cls = true) (hnames : ∀ n ∈ names, Bundle.fit n = true) (w1 : Cond.classLink own ik cls ∈ wsL_law) (w2 : Cond.initialized cls ∈ wsL_law) (hstr : (own, is, text) ∈ z_ss) (hg : ∀ w ∈ (vx_atS own ic cls names).filter goodWord, w ∈ wsL_law) (hb : ∀ w ∈ (vx_atS own ic cls names).filter (fun w => !goodWord w), w ∈ Cond.castable cls cls :: z_ds) (hca : Cond.castable cls cls ∈ z_ws)
    (hgood : ∀ w ∈ Cond.classLink own ik cls :: Cond.initialized cls :: vx_atS own ic cls names, vx_ot w = true)
    (d0 : decode cc pc = .ok (.new ik, 3)) (d3 : decode cc (pc + 3) = .ok (.dup, 1)) (d4 : decode cc (pc + 4) = .ok (.ldc_w is, 3)) (d6 : decode cc (pc + 7) = .ok (.invokespecial ic, 3)) (d9 : decode cc (pc + 10) = .ok (.athrow, 1))
    (hRf : names.length + 3 < R.frames) (hRl : (rest.map fun v => v.category).sum + (13 * (names.length + 1) + 43) ≤ R.locals) (hRc : cells + 1 ≤ R.cells) (hRs : slots + 6 ≤ R.slots) (hoo : oo = .inl (cls, h)) (hc : cells + 1 ≤ k1) (hs : slots + 6 ≤ k2) : z_R p l e R s m args below meth c G lo nL cells slots (vx_MQ below (z_qn G lo oo) (z_qx G lo oo) args s k1 k2 (fun z : Nat => lo ≤ z)) pc lv rest h nx := by
  intro H locs ls e1 e2 e3 e4
  have hts := C.1.2.2.2.2
  obtain ⟨sa, hsa⟩ := C.2.2.2.2.2.2.2.2.2.2.2.1 _ hstr
  have hcw : (Cond.castable cls cls).before args s = true := va_Nw.use (A := args) rfl (C.2.2.2.2.2.2.2.1 _ hca)
  refine vx_throwSW C.1.1 C.1.2.1 hl C.1.2.2.2.1 hcls hnames (hts _ w1) (hts _ w2) hsa (vx_hat (B := Cond.castable cls cls :: z_ds) (fun w hw => hts w (hg w hw)) hb (vx_c hcw (fun w hw => by obtain ⟨y, rfl⟩ := z_ds_declares w hw; exact va_Nw.use (A := args) rfl (C.2.2.2.2.2.2.2.2.2.2.2.2 _ hw)))) hgood C.2.2.2.2.2.2.1.2.1 C.2.2.2.2.2.2.1.2.2 e3 (e4.1.trans C.1.2.2.1.symm) d0 d3 d4 d6 d9 (fun x hx => (C.2.2.2.1 x hx).elim) hRf hRl hRc hRs C.2.2.1 (fun t hal hz hk => ⟨h, hoo, ?_, ?_⟩) e3.2.2 hc hs
  · intro q c hq
    refine ⟨fun e he => ⟨((e2 q c hq).1 e he).1, ((e2 q c hq).1 e he).2.kept (hk q ((e2 q c hq).1 e he).2.lt)⟩, fun he => ?_⟩
    exact va_T.moved hal (va_T.kept ((e2 q c hq).2 he) (fun b hb _ => hk b hb))
  · exact ⟨Nat.le_trans e3.1 hz, fun q h1 h2 => (hk q (Nat.lt_of_lt_of_le h1 e3.1)).trans (e3.2.1 q h1 h2)⟩
end ZRET
end
section
section ZL
variable {p : Program} {l : Launch} {e : Env} {R : Room} {s : State} {m : MethodId} {args : Array Value} {below : List Frame} {meth : Method} {c : Code} {G : zG} {lo t0 nL cells slots : Nat} {Q : State → Prop} {pc : Nat} {lv : List (Nat × Value)} {st : List Value} {h : zH} {nx : Nat} {cc : ByteArray} {own : String} {ret : Option FieldType}
variable {Om : Type} {o : Om} {n : Nat}

theorem zl1 {A : Type} {f : (A → Option Om) → A → Option Om} {a1 : A} (LV : A → List (Nat × Value)) (HP : A → zH) (NX : A → Nat) (hM : wl1 f n a1 = some o) (hs : ∀ rec : A → Option Om, (∀ a2, rec a2 = some o → z_R p l e R s m args below meth c G lo nL cells slots Q pc (LV a2) st (HP a2) (NX a2)) → ∀ a2, f rec a2 = some o → z_R p l e R s m args below meth c G lo nL cells slots Q pc (LV a2) st (HP a2) (NX a2)) : z_R p l e R s m args below meth c G lo nL cells slots Q pc (LV a1) st (HP a1) (NX a1) :=
  wl1_i (P := fun M a2 => M = some o → z_R p l e R s m args below meth c G lo nL cells slots Q pc (LV a2) st (HP a2) (NX a2)) (fun _ q => nomatch q) hs n a1 hM
theorem zl2 {A : Type} {B : Type} {f : (A → B → Option Om) → A → B → Option Om} {a1 : A} {b1 : B} (LV : A → B → List (Nat × Value)) (HP : A → B → zH) (NX : A → B → Nat) (hM : wl2 f n a1 b1 = some o) (hs : ∀ rec : A → B → Option Om, (∀ a2 b2, rec a2 b2 = some o → z_R p l e R s m args below meth c G lo nL cells slots Q pc (LV a2 b2) st (HP a2 b2) (NX a2 b2)) → ∀ a2 b2, f rec a2 b2 = some o → z_R p l e R s m args below meth c G lo nL cells slots Q pc (LV a2 b2) st (HP a2 b2) (NX a2 b2)) : z_R p l e R s m args below meth c G lo nL cells slots Q pc (LV a1 b1) st (HP a1 b1) (NX a1 b1) :=
  wl2_i (P := fun M a2 b2 => M = some o → z_R p l e R s m args below meth c G lo nL cells slots Q pc (LV a2 b2) st (HP a2 b2) (NX a2 b2)) (fun _ _ q => nomatch q) hs n a1 b1 hM
theorem zl3 {A : Type} {B : Type} {C : Type} {f : (A → B → C → Option Om) → A → B → C → Option Om} {a1 : A} {b1 : B} {c1 : C} (LV : A → B → C → List (Nat × Value)) (HP : A → B → C → zH) (NX : A → B → C → Nat) (hM : wl3 f n a1 b1 c1 = some o) (hs : ∀ rec : A → B → C → Option Om, (∀ a2 b2 c2, rec a2 b2 c2 = some o → z_R p l e R s m args below meth c G lo nL cells slots Q pc (LV a2 b2 c2) st (HP a2 b2 c2) (NX a2 b2 c2)) → ∀ a2 b2 c2, f rec a2 b2 c2 = some o → z_R p l e R s m args below meth c G lo nL cells slots Q pc (LV a2 b2 c2) st (HP a2 b2 c2) (NX a2 b2 c2)) : z_R p l e R s m args below meth c G lo nL cells slots Q pc (LV a1 b1 c1) st (HP a1 b1 c1) (NX a1 b1 c1) :=
  wl3_i (P := fun M a2 b2 c2 => M = some o → z_R p l e R s m args below meth c G lo nL cells slots Q pc (LV a2 b2 c2) st (HP a2 b2 c2) (NX a2 b2 c2)) (fun _ _ _ q => nomatch q) hs n a1 b1 c1 hM
theorem zl4 {A : Type} {B : Type} {C : Type} {D : Type} {f : (A → B → C → D → Option Om) → A → B → C → D → Option Om} {a1 : A} {b1 : B} {c1 : C} {d1 : D} (LV : A → B → C → D → List (Nat × Value)) (HP : A → B → C → D → zH) (NX : A → B → C → D → Nat) (hM : wl4 f n a1 b1 c1 d1 = some o) (hs : ∀ rec : A → B → C → D → Option Om, (∀ a2 b2 c2 d2, rec a2 b2 c2 d2 = some o → z_R p l e R s m args below meth c G lo nL cells slots Q pc (LV a2 b2 c2 d2) st (HP a2 b2 c2 d2) (NX a2 b2 c2 d2)) → ∀ a2 b2 c2 d2, f rec a2 b2 c2 d2 = some o → z_R p l e R s m args below meth c G lo nL cells slots Q pc (LV a2 b2 c2 d2) st (HP a2 b2 c2 d2) (NX a2 b2 c2 d2)) : z_R p l e R s m args below meth c G lo nL cells slots Q pc (LV a1 b1 c1 d1) st (HP a1 b1 c1 d1) (NX a1 b1 c1 d1) :=
  wl4_i (P := fun M a2 b2 c2 d2 => M = some o → z_R p l e R s m args below meth c G lo nL cells slots Q pc (LV a2 b2 c2 d2) st (HP a2 b2 c2 d2) (NX a2 b2 c2 d2)) (fun _ _ _ _ q => nomatch q) hs n a1 b1 c1 d1 hM
theorem zl5 {A : Type} {B : Type} {C : Type} {D : Type} {E : Type} {f : (A → B → C → D → E → Option Om) → A → B → C → D → E → Option Om} {a1 : A} {b1 : B} {c1 : C} {d1 : D} {e1 : E} (LV : A → B → C → D → E → List (Nat × Value)) (HP : A → B → C → D → E → zH) (NX : A → B → C → D → E → Nat) (hM : wl5 f n a1 b1 c1 d1 e1 = some o) (hs : ∀ rec : A → B → C → D → E → Option Om, (∀ a2 b2 c2 d2 e2, rec a2 b2 c2 d2 e2 = some o → z_R p l e R s m args below meth c G lo nL cells slots Q pc (LV a2 b2 c2 d2 e2) st (HP a2 b2 c2 d2 e2) (NX a2 b2 c2 d2 e2)) → ∀ a2 b2 c2 d2 e2, f rec a2 b2 c2 d2 e2 = some o → z_R p l e R s m args below meth c G lo nL cells slots Q pc (LV a2 b2 c2 d2 e2) st (HP a2 b2 c2 d2 e2) (NX a2 b2 c2 d2 e2)) : z_R p l e R s m args below meth c G lo nL cells slots Q pc (LV a1 b1 c1 d1 e1) st (HP a1 b1 c1 d1 e1) (NX a1 b1 c1 d1 e1) :=
  wl5_i (P := fun M a2 b2 c2 d2 e2 => M = some o → z_R p l e R s m args below meth c G lo nL cells slots Q pc (LV a2 b2 c2 d2 e2) st (HP a2 b2 c2 d2 e2) (NX a2 b2 c2 d2 e2)) (fun _ _ _ _ _ q => nomatch q) hs n a1 b1 c1 d1 e1 hM
theorem zl6 {A : Type} {B : Type} {C : Type} {D : Type} {E : Type} {F : Type} {f : (A → B → C → D → E → F → Option Om) → A → B → C → D → E → F → Option Om} {a1 : A} {b1 : B} {c1 : C} {d1 : D} {e1 : E} {f1 : F} (LV : A → B → C → D → E → F → List (Nat × Value)) (HP : A → B → C → D → E → F → zH) (NX : A → B → C → D → E → F → Nat) (hM : wl6 f n a1 b1 c1 d1 e1 f1 = some o) (hs : ∀ rec : A → B → C → D → E → F → Option Om, (∀ a2 b2 c2 d2 e2 f2, rec a2 b2 c2 d2 e2 f2 = some o → z_R p l e R s m args below meth c G lo nL cells slots Q pc (LV a2 b2 c2 d2 e2 f2) st (HP a2 b2 c2 d2 e2 f2) (NX a2 b2 c2 d2 e2 f2)) → ∀ a2 b2 c2 d2 e2 f2, f rec a2 b2 c2 d2 e2 f2 = some o → z_R p l e R s m args below meth c G lo nL cells slots Q pc (LV a2 b2 c2 d2 e2 f2) st (HP a2 b2 c2 d2 e2 f2) (NX a2 b2 c2 d2 e2 f2)) : z_R p l e R s m args below meth c G lo nL cells slots Q pc (LV a1 b1 c1 d1 e1 f1) st (HP a1 b1 c1 d1 e1 f1) (NX a1 b1 c1 d1 e1 f1) :=
  wl6_i (P := fun M a2 b2 c2 d2 e2 f2 => M = some o → z_R p l e R s m args below meth c G lo nL cells slots Q pc (LV a2 b2 c2 d2 e2 f2) st (HP a2 b2 c2 d2 e2 f2) (NX a2 b2 c2 d2 e2 f2)) (fun _ _ _ _ _ _ q => nomatch q) hs n a1 b1 c1 d1 e1 f1 hM
theorem zl7 {A : Type} {B : Type} {C : Type} {D : Type} {E : Type} {F : Type} {J : Type} {f : (A → B → C → D → E → F → J → Option Om) → A → B → C → D → E → F → J → Option Om} {a1 : A} {b1 : B} {c1 : C} {d1 : D} {e1 : E} {f1 : F} {j1 : J} (LV : A → B → C → D → E → F → J → List (Nat × Value)) (HP : A → B → C → D → E → F → J → zH) (NX : A → B → C → D → E → F → J → Nat) (hM : wl7 f n a1 b1 c1 d1 e1 f1 j1 = some o) (hs : ∀ rec : A → B → C → D → E → F → J → Option Om, (∀ a2 b2 c2 d2 e2 f2 j2, rec a2 b2 c2 d2 e2 f2 j2 = some o → z_R p l e R s m args below meth c G lo nL cells slots Q pc (LV a2 b2 c2 d2 e2 f2 j2) st (HP a2 b2 c2 d2 e2 f2 j2) (NX a2 b2 c2 d2 e2 f2 j2)) → ∀ a2 b2 c2 d2 e2 f2 j2, f rec a2 b2 c2 d2 e2 f2 j2 = some o → z_R p l e R s m args below meth c G lo nL cells slots Q pc (LV a2 b2 c2 d2 e2 f2 j2) st (HP a2 b2 c2 d2 e2 f2 j2) (NX a2 b2 c2 d2 e2 f2 j2)) : z_R p l e R s m args below meth c G lo nL cells slots Q pc (LV a1 b1 c1 d1 e1 f1 j1) st (HP a1 b1 c1 d1 e1 f1 j1) (NX a1 b1 c1 d1 e1 f1 j1) :=
  wl7_i (P := fun M a2 b2 c2 d2 e2 f2 j2 => M = some o → z_R p l e R s m args below meth c G lo nL cells slots Q pc (LV a2 b2 c2 d2 e2 f2 j2) st (HP a2 b2 c2 d2 e2 f2 j2) (NX a2 b2 c2 d2 e2 f2 j2)) (fun _ _ _ _ _ _ _ q => nomatch q) hs n a1 b1 c1 d1 e1 f1 j1 hM
theorem zj0  {K : Option Om} {Bd : (Option Om) → Option Om} (cj sj pcj : Nat) (LV : List (Nat × Value)) (ST : List Value) (HP : zH) (NX : Nat) (hM : jn0 K Bd = some o) (hK : K = some o → z_R p l e R s m args below meth c G lo nL cj sj Q pcj LV ST HP NX) (hB : ∀ J : Option Om, (J = some o → z_R p l e R s m args below meth c G lo nL cj sj Q pcj LV ST HP NX) → Bd J = some o → z_R p l e R s m args below meth c G lo nL cells slots Q pc lv st h nx) : z_R p l e R s m args below meth c G lo nL cells slots Q pc lv st h nx := hB K hK hM
theorem zj1 {A : Type} {K : A → Option Om} {Bd : (A → Option Om) → Option Om} (cj sj pcj : Nat) (LV : A → List (Nat × Value)) (ST : A → List Value) (HP : A → zH) (NX : A → Nat) (hM : jn1 K Bd = some o) (hK : ∀ a1, K a1 = some o → z_R p l e R s m args below meth c G lo nL cj sj Q pcj (LV a1) (ST a1) (HP a1) (NX a1)) (hB : ∀ J : A → Option Om, (∀ a1, J a1 = some o → z_R p l e R s m args below meth c G lo nL cj sj Q pcj (LV a1) (ST a1) (HP a1) (NX a1)) → Bd J = some o → z_R p l e R s m args below meth c G lo nL cells slots Q pc lv st h nx) : z_R p l e R s m args below meth c G lo nL cells slots Q pc lv st h nx := hB K hK hM
theorem zj2 {A : Type} {B : Type} {K : A → B → Option Om} {Bd : (A → B → Option Om) → Option Om} (cj sj pcj : Nat) (LV : A → B → List (Nat × Value)) (ST : A → B → List Value) (HP : A → B → zH) (NX : A → B → Nat) (hM : jn2 K Bd = some o) (hK : ∀ a1 b1, K a1 b1 = some o → z_R p l e R s m args below meth c G lo nL cj sj Q pcj (LV a1 b1) (ST a1 b1) (HP a1 b1) (NX a1 b1)) (hB : ∀ J : A → B → Option Om, (∀ a1 b1, J a1 b1 = some o → z_R p l e R s m args below meth c G lo nL cj sj Q pcj (LV a1 b1) (ST a1 b1) (HP a1 b1) (NX a1 b1)) → Bd J = some o → z_R p l e R s m args below meth c G lo nL cells slots Q pc lv st h nx) : z_R p l e R s m args below meth c G lo nL cells slots Q pc lv st h nx := hB K hK hM
theorem zj3 {A : Type} {B : Type} {C : Type} {K : A → B → C → Option Om} {Bd : (A → B → C → Option Om) → Option Om} (cj sj pcj : Nat) (LV : A → B → C → List (Nat × Value)) (ST : A → B → C → List Value) (HP : A → B → C → zH) (NX : A → B → C → Nat) (hM : jn3 K Bd = some o) (hK : ∀ a1 b1 c1, K a1 b1 c1 = some o → z_R p l e R s m args below meth c G lo nL cj sj Q pcj (LV a1 b1 c1) (ST a1 b1 c1) (HP a1 b1 c1) (NX a1 b1 c1)) (hB : ∀ J : A → B → C → Option Om, (∀ a1 b1 c1, J a1 b1 c1 = some o → z_R p l e R s m args below meth c G lo nL cj sj Q pcj (LV a1 b1 c1) (ST a1 b1 c1) (HP a1 b1 c1) (NX a1 b1 c1)) → Bd J = some o → z_R p l e R s m args below meth c G lo nL cells slots Q pc lv st h nx) : z_R p l e R s m args below meth c G lo nL cells slots Q pc lv st h nx := hB K hK hM
theorem zj4 {A : Type} {B : Type} {C : Type} {D : Type} {K : A → B → C → D → Option Om} {Bd : (A → B → C → D → Option Om) → Option Om} (cj sj pcj : Nat) (LV : A → B → C → D → List (Nat × Value)) (ST : A → B → C → D → List Value) (HP : A → B → C → D → zH) (NX : A → B → C → D → Nat) (hM : jn4 K Bd = some o) (hK : ∀ a1 b1 c1 d1, K a1 b1 c1 d1 = some o → z_R p l e R s m args below meth c G lo nL cj sj Q pcj (LV a1 b1 c1 d1) (ST a1 b1 c1 d1) (HP a1 b1 c1 d1) (NX a1 b1 c1 d1)) (hB : ∀ J : A → B → C → D → Option Om, (∀ a1 b1 c1 d1, J a1 b1 c1 d1 = some o → z_R p l e R s m args below meth c G lo nL cj sj Q pcj (LV a1 b1 c1 d1) (ST a1 b1 c1 d1) (HP a1 b1 c1 d1) (NX a1 b1 c1 d1)) → Bd J = some o → z_R p l e R s m args below meth c G lo nL cells slots Q pc lv st h nx) : z_R p l e R s m args below meth c G lo nL cells slots Q pc lv st h nx := hB K hK hM
theorem zj5 {A : Type} {B : Type} {C : Type} {D : Type} {E : Type} {K : A → B → C → D → E → Option Om} {Bd : (A → B → C → D → E → Option Om) → Option Om} (cj sj pcj : Nat) (LV : A → B → C → D → E → List (Nat × Value)) (ST : A → B → C → D → E → List Value) (HP : A → B → C → D → E → zH) (NX : A → B → C → D → E → Nat) (hM : jn5 K Bd = some o) (hK : ∀ a1 b1 c1 d1 e1, K a1 b1 c1 d1 e1 = some o → z_R p l e R s m args below meth c G lo nL cj sj Q pcj (LV a1 b1 c1 d1 e1) (ST a1 b1 c1 d1 e1) (HP a1 b1 c1 d1 e1) (NX a1 b1 c1 d1 e1)) (hB : ∀ J : A → B → C → D → E → Option Om, (∀ a1 b1 c1 d1 e1, J a1 b1 c1 d1 e1 = some o → z_R p l e R s m args below meth c G lo nL cj sj Q pcj (LV a1 b1 c1 d1 e1) (ST a1 b1 c1 d1 e1) (HP a1 b1 c1 d1 e1) (NX a1 b1 c1 d1 e1)) → Bd J = some o → z_R p l e R s m args below meth c G lo nL cells slots Q pc lv st h nx) : z_R p l e R s m args below meth c G lo nL cells slots Q pc lv st h nx := hB K hK hM
end ZL
section ZS
variable {p : Program} {l : Launch} {e : Env} {R : Room} {s : State} {m : MethodId} {args : Array Value} {below : List Frame} {meth : Method} {c : Code} {G : zG} {lo t0 nL cells slots : Nat} {Q : State → Prop} {pc : Nat} {lv : List (Nat × Value)} {st rest : List Value} {h h1 : zH} {nx : Nat} {cc : ByteArray} {own : String} {ret : Option FieldType}
variable {x y : Int32} {off : Int} {tgt : Nat} {Om : Type} {M1 M2 : Option Om} {o : Om}
theorem z_if_eq_t (C : z_Cx p l s m args meth c cc nL own ret G lo t0) (d : decode cc pc = .ok (.ifCond .eq off, 3)) (ht : (pc : Int) + off = (tgt : Int)) (hc : x = 0) (K : z_R p l e R s m args below meth c G lo nL cells slots Q tgt lv st h nx) : z_R p l e R s m args below meth c G lo nL cells slots Q pc lv (.int x :: st) h nx := fun H locs ls e1 e2 e3 e4 => lv_if_eq C.1.1 C.1.2.1 d ht (fun q => K H locs ls e1 e2 e3 e4) (fun q => absurd hc q)
theorem z_if_eq_f (C : z_Cx p l s m args meth c cc nL own ret G lo t0) (d : decode cc pc = .ok (.ifCond .eq off, 3)) (ht : (pc : Int) + off = (tgt : Int)) (hc : ¬ x = 0) (K : z_R p l e R s m args below meth c G lo nL cells slots Q (pc + 3) lv st h nx) : z_R p l e R s m args below meth c G lo nL cells slots Q pc lv (.int x :: st) h nx := fun H locs ls e1 e2 e3 e4 => lv_if_eq C.1.1 C.1.2.1 d ht (fun q => absurd q hc) (fun q => K H locs ls e1 e2 e3 e4)
theorem z_icmp_eq_t (C : z_Cx p l s m args meth c cc nL own ret G lo t0) (d : decode cc pc = .ok (.if_icmp .eq off, 3)) (ht : (pc : Int) + off = (tgt : Int)) (hc : x = y) (K : z_R p l e R s m args below meth c G lo nL cells slots Q tgt lv st h nx) : z_R p l e R s m args below meth c G lo nL cells slots Q pc lv (.int y :: .int x :: st) h nx := fun H locs ls e1 e2 e3 e4 => lv_icmp_eq C.1.1 C.1.2.1 d ht (fun q => K H locs ls e1 e2 e3 e4) (fun q => absurd hc q)
theorem z_icmp_eq_f (C : z_Cx p l s m args meth c cc nL own ret G lo t0) (d : decode cc pc = .ok (.if_icmp .eq off, 3)) (ht : (pc : Int) + off = (tgt : Int)) (hc : ¬ x = y) (K : z_R p l e R s m args below meth c G lo nL cells slots Q (pc + 3) lv st h nx) : z_R p l e R s m args below meth c G lo nL cells slots Q pc lv (.int y :: .int x :: st) h nx := fun H locs ls e1 e2 e3 e4 => lv_icmp_eq C.1.1 C.1.2.1 d ht (fun q => absurd q hc) (fun q => K H locs ls e1 e2 e3 e4)
theorem z_if_ne_t (C : z_Cx p l s m args meth c cc nL own ret G lo t0) (d : decode cc pc = .ok (.ifCond .ne off, 3)) (ht : (pc : Int) + off = (tgt : Int)) (hc : ¬ x = 0) (K : z_R p l e R s m args below meth c G lo nL cells slots Q tgt lv st h nx) : z_R p l e R s m args below meth c G lo nL cells slots Q pc lv (.int x :: st) h nx := fun H locs ls e1 e2 e3 e4 => lv_if_ne C.1.1 C.1.2.1 d ht (fun q => K H locs ls e1 e2 e3 e4) (fun q => absurd q hc)
theorem z_if_ne_f (C : z_Cx p l s m args meth c cc nL own ret G lo t0) (d : decode cc pc = .ok (.ifCond .ne off, 3)) (ht : (pc : Int) + off = (tgt : Int)) (hc : x = 0) (K : z_R p l e R s m args below meth c G lo nL cells slots Q (pc + 3) lv st h nx) : z_R p l e R s m args below meth c G lo nL cells slots Q pc lv (.int x :: st) h nx := fun H locs ls e1 e2 e3 e4 => lv_if_ne C.1.1 C.1.2.1 d ht (fun q => absurd hc q) (fun q => K H locs ls e1 e2 e3 e4)
theorem z_icmp_ne_t (C : z_Cx p l s m args meth c cc nL own ret G lo t0) (d : decode cc pc = .ok (.if_icmp .ne off, 3)) (ht : (pc : Int) + off = (tgt : Int)) (hc : ¬ x = y) (K : z_R p l e R s m args below meth c G lo nL cells slots Q tgt lv st h nx) : z_R p l e R s m args below meth c G lo nL cells slots Q pc lv (.int y :: .int x :: st) h nx := fun H locs ls e1 e2 e3 e4 => lv_icmp_ne C.1.1 C.1.2.1 d ht (fun q => K H locs ls e1 e2 e3 e4) (fun q => absurd q hc)
theorem z_icmp_ne_f (C : z_Cx p l s m args meth c cc nL own ret G lo t0) (d : decode cc pc = .ok (.if_icmp .ne off, 3)) (ht : (pc : Int) + off = (tgt : Int)) (hc : x = y) (K : z_R p l e R s m args below meth c G lo nL cells slots Q (pc + 3) lv st h nx) : z_R p l e R s m args below meth c G lo nL cells slots Q pc lv (.int y :: .int x :: st) h nx := fun H locs ls e1 e2 e3 e4 => lv_icmp_ne C.1.1 C.1.2.1 d ht (fun q => absurd hc q) (fun q => K H locs ls e1 e2 e3 e4)
theorem z_if_lt_t (C : z_Cx p l s m args meth c cc nL own ret G lo t0) (d : decode cc pc = .ok (.ifCond .lt off, 3)) (ht : (pc : Int) + off = (tgt : Int)) (hc : x < 0) (K : z_R p l e R s m args below meth c G lo nL cells slots Q tgt lv st h nx) : z_R p l e R s m args below meth c G lo nL cells slots Q pc lv (.int x :: st) h nx := fun H locs ls e1 e2 e3 e4 => lv_if_lt C.1.1 C.1.2.1 d ht (fun q => K H locs ls e1 e2 e3 e4) (fun q => absurd hc q)
theorem z_if_lt_f (C : z_Cx p l s m args meth c cc nL own ret G lo t0) (d : decode cc pc = .ok (.ifCond .lt off, 3)) (ht : (pc : Int) + off = (tgt : Int)) (hc : ¬ x < 0) (K : z_R p l e R s m args below meth c G lo nL cells slots Q (pc + 3) lv st h nx) : z_R p l e R s m args below meth c G lo nL cells slots Q pc lv (.int x :: st) h nx := fun H locs ls e1 e2 e3 e4 => lv_if_lt C.1.1 C.1.2.1 d ht (fun q => absurd q hc) (fun q => K H locs ls e1 e2 e3 e4)
theorem z_icmp_lt_t (C : z_Cx p l s m args meth c cc nL own ret G lo t0) (d : decode cc pc = .ok (.if_icmp .lt off, 3)) (ht : (pc : Int) + off = (tgt : Int)) (hc : x < y) (K : z_R p l e R s m args below meth c G lo nL cells slots Q tgt lv st h nx) : z_R p l e R s m args below meth c G lo nL cells slots Q pc lv (.int y :: .int x :: st) h nx := fun H locs ls e1 e2 e3 e4 => lv_icmp_lt C.1.1 C.1.2.1 d ht (fun q => K H locs ls e1 e2 e3 e4) (fun q => absurd hc q)
theorem z_icmp_lt_f (C : z_Cx p l s m args meth c cc nL own ret G lo t0) (d : decode cc pc = .ok (.if_icmp .lt off, 3)) (ht : (pc : Int) + off = (tgt : Int)) (hc : ¬ x < y) (K : z_R p l e R s m args below meth c G lo nL cells slots Q (pc + 3) lv st h nx) : z_R p l e R s m args below meth c G lo nL cells slots Q pc lv (.int y :: .int x :: st) h nx := fun H locs ls e1 e2 e3 e4 => lv_icmp_lt C.1.1 C.1.2.1 d ht (fun q => absurd q hc) (fun q => K H locs ls e1 e2 e3 e4)
theorem z_if_ge_t (C : z_Cx p l s m args meth c cc nL own ret G lo t0) (d : decode cc pc = .ok (.ifCond .ge off, 3)) (ht : (pc : Int) + off = (tgt : Int)) (hc : 0 ≤ x) (K : z_R p l e R s m args below meth c G lo nL cells slots Q tgt lv st h nx) : z_R p l e R s m args below meth c G lo nL cells slots Q pc lv (.int x :: st) h nx := fun H locs ls e1 e2 e3 e4 => lv_if_ge C.1.1 C.1.2.1 d ht (fun q => K H locs ls e1 e2 e3 e4) (fun q => absurd hc q)
theorem z_if_ge_f (C : z_Cx p l s m args meth c cc nL own ret G lo t0) (d : decode cc pc = .ok (.ifCond .ge off, 3)) (ht : (pc : Int) + off = (tgt : Int)) (hc : ¬ 0 ≤ x) (K : z_R p l e R s m args below meth c G lo nL cells slots Q (pc + 3) lv st h nx) : z_R p l e R s m args below meth c G lo nL cells slots Q pc lv (.int x :: st) h nx := fun H locs ls e1 e2 e3 e4 => lv_if_ge C.1.1 C.1.2.1 d ht (fun q => absurd q hc) (fun q => K H locs ls e1 e2 e3 e4)
theorem z_icmp_ge_t (C : z_Cx p l s m args meth c cc nL own ret G lo t0) (d : decode cc pc = .ok (.if_icmp .ge off, 3)) (ht : (pc : Int) + off = (tgt : Int)) (hc : y ≤ x) (K : z_R p l e R s m args below meth c G lo nL cells slots Q tgt lv st h nx) : z_R p l e R s m args below meth c G lo nL cells slots Q pc lv (.int y :: .int x :: st) h nx := fun H locs ls e1 e2 e3 e4 => lv_icmp_ge C.1.1 C.1.2.1 d ht (fun q => K H locs ls e1 e2 e3 e4) (fun q => absurd hc q)
theorem z_icmp_ge_f (C : z_Cx p l s m args meth c cc nL own ret G lo t0) (d : decode cc pc = .ok (.if_icmp .ge off, 3)) (ht : (pc : Int) + off = (tgt : Int)) (hc : ¬ y ≤ x) (K : z_R p l e R s m args below meth c G lo nL cells slots Q (pc + 3) lv st h nx) : z_R p l e R s m args below meth c G lo nL cells slots Q pc lv (.int y :: .int x :: st) h nx := fun H locs ls e1 e2 e3 e4 => lv_icmp_ge C.1.1 C.1.2.1 d ht (fun q => absurd q hc) (fun q => K H locs ls e1 e2 e3 e4)
theorem z_if_gt_t (C : z_Cx p l s m args meth c cc nL own ret G lo t0) (d : decode cc pc = .ok (.ifCond .gt off, 3)) (ht : (pc : Int) + off = (tgt : Int)) (hc : 0 < x) (K : z_R p l e R s m args below meth c G lo nL cells slots Q tgt lv st h nx) : z_R p l e R s m args below meth c G lo nL cells slots Q pc lv (.int x :: st) h nx := fun H locs ls e1 e2 e3 e4 => lv_if_gt C.1.1 C.1.2.1 d ht (fun q => K H locs ls e1 e2 e3 e4) (fun q => absurd hc q)
theorem z_if_gt_f (C : z_Cx p l s m args meth c cc nL own ret G lo t0) (d : decode cc pc = .ok (.ifCond .gt off, 3)) (ht : (pc : Int) + off = (tgt : Int)) (hc : ¬ 0 < x) (K : z_R p l e R s m args below meth c G lo nL cells slots Q (pc + 3) lv st h nx) : z_R p l e R s m args below meth c G lo nL cells slots Q pc lv (.int x :: st) h nx := fun H locs ls e1 e2 e3 e4 => lv_if_gt C.1.1 C.1.2.1 d ht (fun q => absurd q hc) (fun q => K H locs ls e1 e2 e3 e4)
theorem z_icmp_gt_t (C : z_Cx p l s m args meth c cc nL own ret G lo t0) (d : decode cc pc = .ok (.if_icmp .gt off, 3)) (ht : (pc : Int) + off = (tgt : Int)) (hc : y < x) (K : z_R p l e R s m args below meth c G lo nL cells slots Q tgt lv st h nx) : z_R p l e R s m args below meth c G lo nL cells slots Q pc lv (.int y :: .int x :: st) h nx := fun H locs ls e1 e2 e3 e4 => lv_icmp_gt C.1.1 C.1.2.1 d ht (fun q => K H locs ls e1 e2 e3 e4) (fun q => absurd hc q)
theorem z_icmp_gt_f (C : z_Cx p l s m args meth c cc nL own ret G lo t0) (d : decode cc pc = .ok (.if_icmp .gt off, 3)) (ht : (pc : Int) + off = (tgt : Int)) (hc : ¬ y < x) (K : z_R p l e R s m args below meth c G lo nL cells slots Q (pc + 3) lv st h nx) : z_R p l e R s m args below meth c G lo nL cells slots Q pc lv (.int y :: .int x :: st) h nx := fun H locs ls e1 e2 e3 e4 => lv_icmp_gt C.1.1 C.1.2.1 d ht (fun q => absurd q hc) (fun q => K H locs ls e1 e2 e3 e4)
theorem z_if_le_t (C : z_Cx p l s m args meth c cc nL own ret G lo t0) (d : decode cc pc = .ok (.ifCond .le off, 3)) (ht : (pc : Int) + off = (tgt : Int)) (hc : x ≤ 0) (K : z_R p l e R s m args below meth c G lo nL cells slots Q tgt lv st h nx) : z_R p l e R s m args below meth c G lo nL cells slots Q pc lv (.int x :: st) h nx := fun H locs ls e1 e2 e3 e4 => lv_if_le C.1.1 C.1.2.1 d ht (fun q => K H locs ls e1 e2 e3 e4) (fun q => absurd hc q)
theorem z_if_le_f (C : z_Cx p l s m args meth c cc nL own ret G lo t0) (d : decode cc pc = .ok (.ifCond .le off, 3)) (ht : (pc : Int) + off = (tgt : Int)) (hc : ¬ x ≤ 0) (K : z_R p l e R s m args below meth c G lo nL cells slots Q (pc + 3) lv st h nx) : z_R p l e R s m args below meth c G lo nL cells slots Q pc lv (.int x :: st) h nx := fun H locs ls e1 e2 e3 e4 => lv_if_le C.1.1 C.1.2.1 d ht (fun q => absurd q hc) (fun q => K H locs ls e1 e2 e3 e4)
theorem z_icmp_le_t (C : z_Cx p l s m args meth c cc nL own ret G lo t0) (d : decode cc pc = .ok (.if_icmp .le off, 3)) (ht : (pc : Int) + off = (tgt : Int)) (hc : x ≤ y) (K : z_R p l e R s m args below meth c G lo nL cells slots Q tgt lv st h nx) : z_R p l e R s m args below meth c G lo nL cells slots Q pc lv (.int y :: .int x :: st) h nx := fun H locs ls e1 e2 e3 e4 => lv_icmp_le C.1.1 C.1.2.1 d ht (fun q => K H locs ls e1 e2 e3 e4) (fun q => absurd hc q)
theorem z_icmp_le_f (C : z_Cx p l s m args meth c cc nL own ret G lo t0) (d : decode cc pc = .ok (.if_icmp .le off, 3)) (ht : (pc : Int) + off = (tgt : Int)) (hc : ¬ x ≤ y) (K : z_R p l e R s m args below meth c G lo nL cells slots Q (pc + 3) lv st h nx) : z_R p l e R s m args below meth c G lo nL cells slots Q pc lv (.int y :: .int x :: st) h nx := fun H locs ls e1 e2 e3 e4 => lv_icmp_le C.1.1 C.1.2.1 d ht (fun q => absurd q hc) (fun q => K H locs ls e1 e2 e3 e4)
variable {a b : Nat}
theorem z_acmp_eq (C : z_Cx p l s m args meth c cc nL own ret G lo t0) (d : decode cc pc = .ok (.if_acmp .eq off, 3)) (ht : (pc : Int) + off = (tgt : Int)) (hM : (if a = b then M1 else M2) = some o) (K1 : a = b → M1 = some o → z_R p l e R s m args below meth c G lo nL cells slots Q tgt lv st h nx) (K2 : ¬ a = b → M2 = some o → z_R p l e R s m args below meth c G lo nL cells slots Q (pc + 3) lv st h nx) : z_R p l e R s m args below meth c G lo nL cells slots Q pc lv (.ref b :: .ref a :: st) h nx := fun H locs ls e1 e2 e3 e4 => lv_acmp_eq (rx := some a) (ry := some b) C.1.1 C.1.2.1 d ht (fun q => by cases q; exact K1 rfl (by rw [if_pos rfl] at hM; exact hM) H locs ls e1 e2 e3 e4) (fun q => K2 (fun z => q (by rw [z])) (by rw [if_neg (fun z => q (by rw [z]))] at hM; exact hM) H locs ls e1 e2 e3 e4)
theorem z_acmp_ne (C : z_Cx p l s m args meth c cc nL own ret G lo t0) (d : decode cc pc = .ok (.if_acmp .ne off, 3)) (ht : (pc : Int) + off = (tgt : Int)) (hM : (if a = b then M1 else M2) = some o) (K1 : a = b → M1 = some o → z_R p l e R s m args below meth c G lo nL cells slots Q (pc + 3) lv st h nx) (K2 : ¬ a = b → M2 = some o → z_R p l e R s m args below meth c G lo nL cells slots Q tgt lv st h nx) : z_R p l e R s m args below meth c G lo nL cells slots Q pc lv (.ref b :: .ref a :: st) h nx := fun H locs ls e1 e2 e3 e4 => lv_acmp_ne (rx := some a) (ry := some b) C.1.1 C.1.2.1 d ht (fun q => K2 (fun z => q (by rw [z])) (by rw [if_neg (fun z => q (by rw [z]))] at hM; exact hM) H locs ls e1 e2 e3 e4) (fun q => by cases q; exact K1 rfl (by rw [if_pos rfl] at hM; exact hM) H locs ls e1 e2 e3 e4)
theorem z_tableIn {dflt tl th : Int} {offs : Array Int} {len : Nat} (C : z_Cx p l s m args meth c cc nL own ret G lo t0) (d : decode cc pc = .ok (.tableswitch dflt tl th offs, len)) (h1' : ¬ x.toInt < tl) (h2' : ¬ th < x.toInt) (ho : offs[(x.toInt - tl).toNat]? = some off) (ht : (pc : Int) + off = (tgt : Int)) (K : z_R p l e R s m args below meth c G lo nL cells slots Q tgt lv st h nx) : z_R p l e R s m args below meth c G lo nL cells slots Q pc lv (.int x :: st) h nx := fun H locs ls e1 e2 e3 e4 => lv_tableIn C.1.1 C.1.2.1 d h1' h2' ho ht (K H locs ls e1 e2 e3 e4)
theorem z_tableD {dflt tl th : Int} {offs : Array Int} {len : Nat} (C : z_Cx p l s m args meth c cc nL own ret G lo t0) (d : decode cc pc = .ok (.tableswitch dflt tl th offs, len)) (hh : ∀ k : Int, tl ≤ k → k ≤ th → x.toInt = k → offs[(k - tl).toNat]? = some dflt) (ht : (pc : Int) + dflt = (tgt : Int)) (K : z_R p l e R s m args below meth c G lo nL cells slots Q tgt lv st h nx) : z_R p l e R s m args below meth c G lo nL cells slots Q pc lv (.int x :: st) h nx := fun H locs ls e1 e2 e3 e4 => by
  by_cases hin : x.toInt < tl ∨ th < x.toInt
  · exact lv_tableOut C.1.1 C.1.2.1 d hin ht (K H locs ls e1 e2 e3 e4)
  · exact lv_tableIn C.1.1 C.1.2.1 d (fun q => hin (Or.inl q)) (fun q => hin (Or.inr q)) (hh x.toInt (by omega) (by omega) rfl) ht (K H locs ls e1 e2 e3 e4)
theorem z_lookup {dflt : Int} {ps : Array (Int × Int)} {len : Nat} (C : z_Cx p l s m args meth c cc nL own ret G lo t0) (d : decode cc pc = .ok (.lookupswitch dflt ps, len)) (hp : (ps.toList.zip (ps.toList.drop 1)).all (fun (a, next) => a.1 < next.1) = true) (ho : Op.lookupswitch.offset ps.toList dflt x.toInt = off) (ht : (pc : Int) + off = (tgt : Int)) (K : z_R p l e R s m args below meth c G lo nL cells slots Q tgt lv st h nx) : z_R p l e R s m args below meth c G lo nL cells slots Q pc lv (.int x :: st) h nx := fun H locs ls e1 e2 e3 e4 => lv_lookup C.1.1 C.1.2.1 d hp ho ht (K H locs ls e1 e2 e3 e4)
end ZS
theorem z_sw {c : Prop} [Decidable c] {Om : Type} {M1 M2 : Option Om} {o : Om} {g : Prop} (hM : (if c then M1 else M2) = some o) (k1 : c → M1 = some o → g) (k2 : ¬ c → M2 = some o → g) : g := by
  by_cases h : c
  · rw [if_pos h] at hM; exact k1 h hM
  · rw [if_neg h] at hM; exact k2 h hM
theorem z_gn {c : Prop} [Decidable c] {Om : Type} {M : Option Om} {o : Om} (hM : (if c then none else M) = some o) : ¬ c ∧ M = some o := by
  by_cases h : c
  · rw [if_pos h] at hM; cases hM
  · rw [if_neg h] at hM; exact ⟨h, hM⟩
theorem z_gy {c : Prop} [Decidable c] {Om : Type} {M : Option Om} {o : Om} (hM : (if c then M else none) = some o) : c ∧ M = some o := by
  by_cases h : c
  · rw [if_pos h] at hM; exact ⟨h, hM⟩
  · rw [if_neg h] at hM; cases hM
theorem z_tb_c {X Y : Type} {a : Option (String ⊕ X)} {k : X → Option (String ⊕ Y)} {o : String ⊕ Y} (hM : z_tb a k = some o) : (∃ E, a = some (.inl E) ∧ o = .inl E) ∨ ∃ x, a = some (.inr x) ∧ k x = some o := by
  obtain ⟨z, h1, h2⟩ := Option.bind_eq_some_iff.mp hM
  cases z with
  | inl E => cases h2; exact Or.inl ⟨E, h1, rfl⟩
  | inr x => exact Or.inr ⟨x, h1, h2⟩
theorem z_tn_c {X Y : Type} {a : Option (String ⊕ X)} {k : X → Option Y} {o : Y} (hM : z_tn a k = some o) : ∃ x, a = some (.inr x) ∧ k x = some o := by
  obtain ⟨z, h1, h2⟩ := Option.bind_eq_some_iff.mp hM
  cases z with
  | inl E => cases h2
  | inr x => exact ⟨x, h1, h2⟩
def z_eo {X : Type} (h : zH) (o : String ⊕ X) (f : X → Option Value × zH × Nat) : zV := match o with
  | .inl E => .inl (E, h)
  | .inr x => .inr (f x)
def z_mo {X : Type} (o : String ⊕ X) (a b : Nat) : Nat := match o with
  | .inl _ => a
  | .inr _ => b
/-- a reference is stored: an awning or a stall -/
def z_el (h : zH) (v : Nat) : Bool := (z_ob h v 1).isSome || (z_ob h v 4).isSome
def z_sE (h : zH) (a : Nat) (i : Int32) (v : Nat) : Option zH := if z_el h v = true then z_sR h a i (some v) else none
def z_cpQ (h : zH) (a0 : Nat) (sp : Int32) (a : Nat) (dp n : Int32) : Option zH := (z_aq h a0).bind fun r0 => (z_aq h a).bind fun r => if ¬ sp < 0 ∧ ¬ dp < 0 ∧ ¬ n < 0 ∧ sp.toNatClampNeg + n.toNatClampNeg ≤ r0.1 ∧ dp.toNatClampNeg + n.toNatClampNeg ≤ r.1 ∧ (List.range n.toNatClampNeg).all (fun i => match r0.2 (sp.toNatClampNeg + i) with | none => true | some y => z_el h y) = true then some (z_up h a (zQ r.1 (va_cpy r0.2 r.2 sp.toNatClampNeg dp.toNatClampNeg n.toNatClampNeg))) else none
def z_cpI (h : zH) (a0 : Nat) (sp : Int32) (a : Nat) (dp n : Int32) : Option zH := (z_ai h a0).bind fun r0 => (z_ai h a).bind fun r => if ¬ sp < 0 ∧ ¬ dp < 0 ∧ ¬ n < 0 ∧ sp.toNatClampNeg + n.toNatClampNeg ≤ r0.1 ∧ dp.toNatClampNeg + n.toNatClampNeg ≤ r.1 then some (z_up h a (zI r.1 (va_cpy r0.2 r.2 sp.toNatClampNeg dp.toNatClampNeg n.toNatClampNeg))) else none
section ZCP
variable {p : Program} {l : Launch} {e : Env} {R : Room} {s : State} {m : MethodId} {args : Array Value} {below : List Frame} {meth : Method} {c : Code} {G : zG} {lo t0 nL cells slots : Nat} {Q : State → Prop} {pc : Nat} {lv : List (Nat × Value)} {st rest : List Value} {h h1 : zH} {nx : Nat} {cc : ByteArray} {own : String} {ret : Option FieldType}
variable {a a0 b ix : Nat} {i sp dp n : Int32}
theorem z_aastE (C : z_Cx p l s m args meth c cc nL own ret G lo t0) (hv : z_sE h a i b = some h1) (d : decode cc pc = .ok (.aastore, 1)) (K : z_R p l e R s m args below meth c G lo nL cells slots Q (pc + 1) lv st h1 nx) : z_R p l e R s m args below meth c G lo nL cells slots Q pc lv (.ref b :: .int i :: .ref a :: st) h nx := by
  obtain ⟨hb, hv⟩ := z_gy hv
  simp only [z_el, Bool.or_eq_true, Option.isSome_iff_exists] at hb
  rcases hb with ⟨fs, hb⟩ | ⟨fs, hb⟩
  · exact z_aast (ci := 1) C hv (u := ()) (by unfold z_ck; rw [hb]; rfl) rfl (by decide) d K
  · exact z_aast (ci := 4) C hv (u := ()) (by unfold z_ck; rw [hb]; rfl) rfl (by decide) d K
theorem z_nn : ∀ z : Int32, ¬ z < 0 → z.toInt = (z.toNatClampNeg : Int) := by
  intro z hz
  have hz0 : (0 : Int) ≤ z.toInt := by
    have := Int32.not_lt.mp hz
    simpa using Int32.le_iff_toInt_le.mp this
  show z.toInt = ((z.toInt.toNat : Nat) : Int)
  omega
theorem z_copyI (C : z_Cx p l s m args meth c cc nL own ret G lo t0) (hv : z_cpI h a0 sp a dp n = some h1) (w1 : Cond.methodLink own ix arraycopyName ∈ wsL_law) (w2 : Cond.native arraycopyName ∈ wsL_law) (w3 : Cond.static arraycopyName ∈ wsL_law) (w4 : Cond.initialized "java/lang/System" ∈ wsL_law) (hfr : 1 ≤ R.frames) (hlc : (st.map fun v => v.category).sum + (nativeFrameWords "java/lang/System" "arraycopy" 5 + 11) ≤ R.locals) (d : decode cc pc = .ok (.invokestatic ix, 3)) (K : z_R p l e R s m args below meth c G lo nL cells slots Q (pc + 3) lv st h1 nx) : z_R p l e R s m args below meth c G lo nL cells slots Q pc lv (.int n :: .int dp :: .ref a :: .int sp :: .ref a0 :: st) h nx := by
  intro H locs ls e1 e2 e3 e4
  obtain ⟨⟨n0, f⟩, q0, hv⟩ := Option.bind_eq_some_iff.mp hv
  obtain ⟨⟨n1, g⟩, q1, hv⟩ := Option.bind_eq_some_iff.mp hv
  obtain ⟨⟨g1, g2, g3, g4, g5⟩, hv⟩ := z_gy hv
  cases hv
  have k0 := z_ai_spec q0
  have k1 := z_ai_spec q1
  dsimp only at k0 k1 g4 g5
  have hts := C.1.2.2.2.2
  have hK : va_K G.1 vwCl (z_tys G) s := C.2.2.2.2.2.1
  have hat := (e2 a _ k1).1 _ rfl
  have hc0 : H[a0]? = some (vp_cell (G.2 0) (n0, .inl f)) := ((e2 a0 _ k0).1 _ rfl).2
  have hc1 : H[a]? = some (vp_cell (G.2 0) (n1, .inl g)) := hat.2
  obtain ⟨-, kk0, hk0, cm0, hkk0⟩ := (hK.2 0 _ rfl).1 n0 (fun j => .int (f j))
  intro T hT X
  obtain ⟨vm', X', step⟩ := X.arraycopy C.1.1 C.1.2.2.2.1 (hts _ w1) (hts _ w2) (hts _ w3) (hts _ w4) (src := a0) (dst := a) (cs := vp_cell (G.2 0) (n0, .inl f)) (cd := vp_cell (G.2 0) (n1, .inl g)) (srcPos := sp) (destPos := dp) (n := n) (by rw [hT]; exact hc0) (by rw [hT]; exact hc1)
    (fun _ h => by cases h) (fun _ h => by cases h) (fun h => by cases h) (fun h => by cases h) hk0 hk0 hkk0 hkk0 rfl g1 g2 g3
    (by rw [z_nn sp g1, z_nn n g3]; show ¬ _ > ((arrV (G.2 0) n0 (fun j => .int (f j))).slots.size : Int); rw [arrV_size]; omega)
    (by rw [z_nn dp g2, z_nn n g3]; show ¬ _ > ((arrV (G.2 0) n1 (fun j => .int (g j))).slots.size : Int); rw [arrV_size]; omega)
    (fun vm₁ _ i hi => by
      have e : (vp_cell (G.2 0) (n0, .inl f)).slots.getD (sp.toNatClampNeg + i) .null = .int (f (sp.toNatClampNeg + i)) := by
        show (arrV (G.2 0) n0 (fun j => .int (f j))).slots.getD _ _ = _
        rw [Array.getD_eq_getD_getElem?, arrV_read _ _ (by omega)]
        rfl
      refine ⟨?_, ?_⟩
      · rw [e]; rfl
      · rw [e]; exact trivial)
    (g := F0 m pc ls (.int n :: .int dp :: .ref a :: .int sp :: .ref a0 :: st)) rfl (e4.1.trans C.1.2.2.1.symm) (rest := st) rfl (by rw [C.1.2.1]; exact d) hfr (by show 2 * 0 + _ + _ ≤ _; omega)
  have e9 : copied (vp_cell (G.2 0) (n0, .inl f)) (vp_cell (G.2 0) (n1, .inl g)) sp dp n = vp_cell (G.2 0) (n1, .inl (va_cpy f g sp.toNatClampNeg dp.toNatClampNeg n.toNatClampNeg)) := va_copied (fun z => .int z) (G.2 0) (G.2 0) f g g4
  rw [e9] at X' step
  have hl : a < H.size := (Array.getElem?_eq_some_iff.mp hc1).1
  have hheap : ((T.setVm vm').setCell a (vp_cell (G.2 0) (n1, .inl (va_cpy f g sp.toNatClampNeg dp.toNatClampNeg n.toNatClampNeg)))).heap = H.setIfInBounds a (vp_cell (G.2 0) (n1, .inl (va_cpy f g sp.toNatClampNeg dp.toNatClampNeg n.toNatClampNeg))) := by rw [← hT]; rfl
  have oq : ∀ q : Nat, q ≠ a → (H.setIfInBounds a (vp_cell (G.2 0) (n1, .inl (va_cpy f g sp.toNatClampNeg dp.toNatClampNeg n.toNatClampNeg))))[q]? = H[q]? := fun q hq => by simp [Array.getElem?_setIfInBounds, Ne.symm hq]
  obtain ⟨t, a1, b1⟩ := K _ _ ls (by simp; exact e1) (z_upd e2 k1 rfl (c1 := zI n1 (va_cpy f g sp.toNatClampNeg dp.toNatClampNeg n.toNatClampNeg)) rfl (show (H.setIfInBounds a _)[a]? = some _ by simp [Array.getElem?_setIfInBounds, hl]) oq) ⟨by simp; exact e3.1, fun q w1 w2 => by
      rw [oq q (fun e => w2 (by rw [e]; exact hat.1))]
      exact e3.2.1 q w1 w2, fun q hq => by
      rcases List.mem_append.mp hq with h | h
      · exact e3.2.2 q h
      · obtain ⟨z, -, hz⟩ := List.mem_map.mp h
        rw [← hz]
        exact hat.1⟩ e4 _ hheap X'
  exact ⟨t, step t a1, b1⟩
theorem z_copyQ (C : z_Cx p l s m args meth c cc nL own ret G lo t0) (hv : z_cpQ h a0 sp a dp n = some h1) (w1 : Cond.methodLink own ix arraycopyName ∈ wsL_law) (w2 : Cond.native arraycopyName ∈ wsL_law) (w3 : Cond.static arraycopyName ∈ wsL_law) (w4 : Cond.initialized "java/lang/System" ∈ wsL_law) (hfr : 1 ≤ R.frames) (hlc : (st.map fun v => v.category).sum + (nativeFrameWords "java/lang/System" "arraycopy" 5 + 11) ≤ R.locals) (d : decode cc pc = .ok (.invokestatic ix, 3)) (K : z_R p l e R s m args below meth c G lo nL cells slots Q (pc + 3) lv st h1 nx) : z_R p l e R s m args below meth c G lo nL cells slots Q pc lv (.int n :: .int dp :: .ref a :: .int sp :: .ref a0 :: st) h nx := by
  intro H locs ls e1 e2 e3 e4
  obtain ⟨⟨n0, f⟩, q0, hv⟩ := Option.bind_eq_some_iff.mp hv
  obtain ⟨⟨n1, g⟩, q1, hv⟩ := Option.bind_eq_some_iff.mp hv
  obtain ⟨⟨g1, g2, g3, g4, g5, g6⟩, hv⟩ := z_gy hv
  cases hv
  have k0 := z_aq_spec q0
  have k1 := z_aq_spec q1
  dsimp only at k0 k1 g4 g5 g6
  have hts := C.1.2.2.2.2
  have hK : va_K G.1 vwCl (z_tys G) s := C.2.2.2.2.2.1
  have hat := (e2 a _ k1).1 _ rfl
  have hc0 : H[a0]? = some (vp_cell (G.2 1) (n0, .inr (.inr (.inr (.inr f))))) := ((e2 a0 _ k0).1 _ rfl).2
  have hc1 : H[a]? = some (vp_cell (G.2 1) (n1, .inr (.inr (.inr (.inr g))))) := hat.2
  obtain ⟨-, kk0, hk0, cm0, hkk0⟩ := (hK.2 1 _ rfl).1 n0 (fun j => va_rf (f j))
  intro T hT X
  obtain ⟨vm', X', step⟩ := X.arraycopy C.1.1 C.1.2.2.2.1 (hts _ w1) (hts _ w2) (hts _ w3) (hts _ w4) (src := a0) (dst := a) (cs := vp_cell (G.2 1) (n0, .inr (.inr (.inr (.inr f))))) (cd := vp_cell (G.2 1) (n1, .inr (.inr (.inr (.inr g))))) (srcPos := sp) (destPos := dp) (n := n) (by rw [hT]; exact hc0) (by rw [hT]; exact hc1)
    (fun _ h => by cases h) (fun _ h => by cases h) (fun h => by cases h) (fun h => by cases h) hk0 hk0 hkk0 hkk0 rfl g1 g2 g3
    (by rw [z_nn sp g1, z_nn n g3]; show ¬ _ > ((arrV (G.2 1) n0 (fun j => va_rf (f j))).slots.size : Int); rw [arrV_size]; omega)
    (by rw [z_nn dp g2, z_nn n g3]; show ¬ _ > ((arrV (G.2 1) n1 (fun j => va_rf (g j))).slots.size : Int); rw [arrV_size]; omega)
    (fun vm₁ hal i hi => by
      have e : (vp_cell (G.2 1) (n0, .inr (.inr (.inr (.inr f))))).slots.getD (sp.toNatClampNeg + i) .null = va_rf (f (sp.toNatClampNeg + i)) := by
        show (arrV (G.2 1) n0 (fun j => va_rf (f j))).slots.getD _ _ = _
        rw [Array.getD_eq_getD_getElem?, arrV_read _ _ (by omega)]
        rfl
      rw [e]
      have g7 := List.all_eq_true.mp g6 i (List.mem_range.mpr hi)
      cases hy : f (sp.toNatClampNeg + i) with
      | none => exact ⟨rfl, trivial⟩
      | some y =>
        rw [hy] at g7
        have g8 : z_el h y = true := g7
        simp only [z_el, Bool.or_eq_true, Option.isSome_iff_exists] at g8
        obtain ⟨ci, Cn, T9, N9, fs, hvw, hcast, hob⟩ : ∃ (ci : Nat) (Cn : String) (T9 : u_T) (N9 : Nat) (fs : List Value), vwCl[ci]? = some (Cn, T9, N9) ∧ Cond.castable Cn "java/lang/Object" ∈ z_ws ∧ z_ob h y ci = some fs := by
          rcases g8 with ⟨fs, hb⟩ | ⟨fs, hb⟩
          · exact ⟨1, _, _, _, fs, rfl, by decide, hb⟩
          · exact ⟨4, _, _, _, fs, rfl, by decide, hb⟩
        obtain ⟨cellV, w5, w6, w7⟩ := va_recv hK (z_P1 ((e2 y _ (z_ob_spec hob)).1 _ rfl).2) hvw (q0 := 0) rfl
        obtain ⟨kA, comp, r1, r2, r3, -⟩ := (hK.2 1 _ rfl).2
        cases hk0.symm.trans r1
        cases hkk0.symm.trans r2
        obtain ⟨c3, c4, hc3, hc4, hasg⟩ := Cond.castable_spec (va_Nw.use (A := args) rfl (C.2.2.2.2.2.2.2.1 _ hcast))
        obtain ⟨kC, hkC, -⟩ := Vm.findClass_spec w7
        obtain ⟨kE, hkE, -⟩ := Vm.findClass_spec r3
        obtain ⟨kC', hkC', -⟩ := hal.2.2 _ _ hkC
        obtain ⟨kE', hkE', -⟩ := hal.2.2 _ _ hkE
        refine ⟨rfl, cellV, (show T.heap[y]? = some cellV by rw [hT]; exact w5), (fun q h => by rw [h] at w6; cases w6), ⟨kC', hkC'⟩, ?_, ?_⟩
        · exact ⟨kE', hkE'⟩
        · show vm₁.assignable _ _ = true
          rw [hal.assignable]
          have e5 : c3 = cellV.cls := Option.some.inj (hc3.symm.trans w7)
          have e6 : c4 = cm0 := Option.some.inj (hc4.symm.trans r3)
          rw [← e5, ← e6]
          exact hasg)
    (g := F0 m pc ls (.int n :: .int dp :: .ref a :: .int sp :: .ref a0 :: st)) rfl (e4.1.trans C.1.2.2.1.symm) (rest := st) rfl (by rw [C.1.2.1]; exact d) hfr (by show 2 * 0 + _ + _ ≤ _; omega)
  have e9 : copied (vp_cell (G.2 1) (n0, .inr (.inr (.inr (.inr f))))) (vp_cell (G.2 1) (n1, .inr (.inr (.inr (.inr g))))) sp dp n = vp_cell (G.2 1) (n1, .inr (.inr (.inr (.inr (va_cpy f g sp.toNatClampNeg dp.toNatClampNeg n.toNatClampNeg))))) := by
    rw [vp_cell_q, vp_cell_q, vp_cell_q]
    exact va_copied (fun z => va_rf z) (G.2 1) (G.2 1) f g g4
  rw [e9] at X' step
  have hl : a < H.size := (Array.getElem?_eq_some_iff.mp hc1).1
  have hheap : ((T.setVm vm').setCell a (vp_cell (G.2 1) (n1, .inr (.inr (.inr (.inr (va_cpy f g sp.toNatClampNeg dp.toNatClampNeg n.toNatClampNeg))))))).heap = H.setIfInBounds a (vp_cell (G.2 1) (n1, .inr (.inr (.inr (.inr (va_cpy f g sp.toNatClampNeg dp.toNatClampNeg n.toNatClampNeg)))))) := by rw [← hT]; rfl
  have oq : ∀ q : Nat, q ≠ a → (H.setIfInBounds a (vp_cell (G.2 1) (n1, .inr (.inr (.inr (.inr (va_cpy f g sp.toNatClampNeg dp.toNatClampNeg n.toNatClampNeg)))))))[q]? = H[q]? := fun q hq => by simp [Array.getElem?_setIfInBounds, Ne.symm hq]
  obtain ⟨t, a1, b1⟩ := K _ _ ls (by simp; exact e1) (z_upd e2 k1 rfl (c1 := zQ n1 (va_cpy f g sp.toNatClampNeg dp.toNatClampNeg n.toNatClampNeg)) rfl (show (H.setIfInBounds a _)[a]? = some _ by simp [Array.getElem?_setIfInBounds, hl]) oq) ⟨by simp; exact e3.1, fun q w1 w2 => by
      rw [oq q (fun e => w2 (by rw [e]; exact hat.1))]
      exact e3.2.1 q w1 w2, fun q hq => by
      rcases List.mem_append.mp hq with h | h
      · exact e3.2.2 q h
      · obtain ⟨z, -, hz⟩ := List.mem_map.mp h
        rw [← hz]
        exact hat.1⟩ e4 _ hheap X'
  exact ⟨t, step t a1, b1⟩
end ZCP
theorem ax_X4_54 : ∀ w ∈ (vx_atS RX4 54 "java/lang/IllegalArgumentException" ["java/lang/RuntimeException", "java/lang/Exception"]).filter goodWord, w ∈ wsL_law := fun w h => List.mem_append_left _ (List.mem_append_left _ (List.mem_append_left _ (List.mem_append_right _ h)))
theorem ax_X4_54_b : ∀ w ∈ (vx_atS RX4 54 "java/lang/IllegalArgumentException" ["java/lang/RuntimeException", "java/lang/Exception"]).filter (fun w => !goodWord w), w ∈ Cond.castable "java/lang/IllegalArgumentException" "java/lang/IllegalArgumentException" :: z_ds := by decide +kernel
theorem ax_X4_54_g : ∀ w ∈ Cond.classLink RX4 50 "java/lang/IllegalArgumentException" :: Cond.initialized "java/lang/IllegalArgumentException" :: vx_atS RX4 54 "java/lang/IllegalArgumentException" ["java/lang/RuntimeException", "java/lang/Exception"], vx_ot w = true := by decide +kernel
theorem ax_X4_71 : ∀ w ∈ (vx_atS RX4 71 "java/lang/IllegalStateException" ["java/lang/RuntimeException", "java/lang/Exception"]).filter goodWord, w ∈ wsL_law := fun w h => List.mem_append_left _ (List.mem_append_left _ (List.mem_append_right _ h))
theorem ax_X4_71_b : ∀ w ∈ (vx_atS RX4 71 "java/lang/IllegalStateException" ["java/lang/RuntimeException", "java/lang/Exception"]).filter (fun w => !goodWord w), w ∈ Cond.castable "java/lang/IllegalStateException" "java/lang/IllegalStateException" :: z_ds := by decide +kernel
theorem ax_X4_71_g : ∀ w ∈ Cond.classLink RX4 67 "java/lang/IllegalStateException" :: Cond.initialized "java/lang/IllegalStateException" :: vx_atS RX4 71 "java/lang/IllegalStateException" ["java/lang/RuntimeException", "java/lang/Exception"], vx_ot w = true := by decide +kernel
theorem ax_X4_182 : ∀ w ∈ (vx_atS RX4 182 "java/lang/IndexOutOfBoundsException" ["java/lang/RuntimeException", "java/lang/Exception"]).filter goodWord, w ∈ wsL_law := fun w h => List.mem_append_left _ (List.mem_append_right _ h)
theorem ax_X4_182_b : ∀ w ∈ (vx_atS RX4 182 "java/lang/IndexOutOfBoundsException" ["java/lang/RuntimeException", "java/lang/Exception"]).filter (fun w => !goodWord w), w ∈ Cond.castable "java/lang/IndexOutOfBoundsException" "java/lang/IndexOutOfBoundsException" :: z_ds := by decide +kernel
theorem ax_X4_182_g : ∀ w ∈ Cond.classLink RX4 178 "java/lang/IndexOutOfBoundsException" :: Cond.initialized "java/lang/IndexOutOfBoundsException" :: vx_atS RX4 182 "java/lang/IndexOutOfBoundsException" ["java/lang/RuntimeException", "java/lang/Exception"], vx_ot w = true := by decide +kernel
theorem ax_X1_50 : ∀ w ∈ (vx_atS RX1 50 "java/lang/IndexOutOfBoundsException" ["java/lang/RuntimeException", "java/lang/Exception"]).filter goodWord, w ∈ wsL_law := fun w h => List.mem_append_right _ h
theorem ax_X1_50_b : ∀ w ∈ (vx_atS RX1 50 "java/lang/IndexOutOfBoundsException" ["java/lang/RuntimeException", "java/lang/Exception"]).filter (fun w => !goodWord w), w ∈ Cond.castable "java/lang/IndexOutOfBoundsException" "java/lang/IndexOutOfBoundsException" :: z_ds := by decide +kernel
theorem ax_X1_50_g : ∀ w ∈ Cond.classLink RX1 46 "java/lang/IndexOutOfBoundsException" :: Cond.initialized "java/lang/IndexOutOfBoundsException" :: vx_atS RX1 50 "java/lang/IndexOutOfBoundsException" ["java/lang/RuntimeException", "java/lang/Exception"], vx_ot w = true := by decide +kernel
end
section
/-! by program out of the bytecode (wip/whole/gen.py): the mirrors, then the walks -/
noncomputable def M_Jxa1e45_init_da8c8 (a0 : Nat) : Option (Unit) := (some ())
noncomputable def M_Jxc12de_init_da8c8 (h : zH) (a0 : Nat) : Option (zH) := (M_Jxa1e45_init_da8c8 a0).bind fun r1 => (z_pV h a0 0 0 (.int (0 : Int32))).bind fun h_2 => (some h_2)
noncomputable def M_Jx4a65c_init_da8c8 (h : zH) (t0 : Nat) (a0 : Nat) : Option (zH) := (M_Jxc12de_init_da8c8 h a0).bind fun r1 => (z_pV r1 a0 0 1 (.ref t0)).bind fun h_2 => (some h_2)
noncomputable def M_Jx4a65c_size_8abf5 (h : zH) (a0 : Nat) : Option (Int32) := (z_gI h a0 0 2).bind fun r1 => (some r1)
noncomputable def M_J3_checkIndex_8e157 (x0 : Int32) (x1 : Int32) : Option (Int32) := (if x0 < 0 then none else (if x0 < x1 then (some x0) else none))
noncomputable def M_J15_checkIndex_7cf53 (x0 : Int32) (x1 : Int32) : Option (Int32) := (M_J3_checkIndex_8e157 x0 x1).bind fun r1 => (some r1)
noncomputable def M_Jx4a65c_elementData_915e3 (h : zH) (a0 : Nat) (x1 : Int32) : Option (Nat) := (z_gR h a0 0 1).bind fun r1 => (z_aR h r1 x1).bind fun r2 => (some r2)
noncomputable def M_Jx4a65c_get_915e3 (h : zH) (a0 : Nat) (x1 : Int32) : Option (Nat) := (z_gI h a0 0 2).bind fun r1 => (M_J15_checkIndex_7cf53 x1 r1).bind fun r2 => (z_ck h a0 0).bind fun _ => (M_Jx4a65c_elementData_915e3 h a0 x1).bind fun r4 => (some r4)
noncomputable def M_Jx4a65c_grow_92f84 (h : zH) (nx : Nat) (t0 : Nat) (a0 : Nat) (x1 : Int32) : Option (Nat × zH × Nat) := (z_gR h a0 0 1).bind fun r1 => (z_al h r1).bind fun r2 => (if 0 < r2 then none else (z_gR h a0 0 1).bind fun r3 => (if r3 = t0 then (if (if (10 : Int32) < x1 then x1 else (10 : Int32)) = 10 then (z_pV (z_up h nx (zQ 10 (fun _ => none))) a0 0 1 (.ref nx)).bind fun h_5 => (some (nx, h_5, (nx + 1))) else none) else none))
noncomputable def M_Jx4a65c_grow_d5877 (h : zH) (nx : Nat) (t0 : Nat) (a0 : Nat) : Option (Nat × zH × Nat) := (z_gI h a0 0 2).bind fun r1 => (z_ck h a0 0).bind fun _ => (M_Jx4a65c_grow_92f84 h nx t0 a0 (r1 + (1 : Int32))).bind fun r3 => (some (r3.1, r3.2.1, r3.2.2))
noncomputable def M_Jx4a65c_add_72be8 (h : zH) (nx : Nat) (t0 : Nat) (a0 : Nat) (a1 : Nat) (a2 : Nat) (x3 : Int32) : Option (zH × Nat) := (z_al h a2).bind fun r1 => jn3 (fun (a2_2 : Nat) (h_2 : zH) (n_2 : Nat) => (z_sE h_2 a2_2 x3 a1).bind fun h_3 => (z_pV h_3 a0 0 2 (.int (x3 + (1 : Int32)))).bind fun h_4 => (some (h_4, n_2))) fun J2 => (if x3 = r1 then (z_ck h a0 0).bind fun _ => (M_Jx4a65c_grow_d5877 h nx t0 a0).bind fun r6 => (J2 r6.1 r6.2.1 r6.2.2) else (J2 a2 h nx))
noncomputable def M_Jx4a65c_add_9ea2d (h : zH) (nx : Nat) (t0 : Nat) (a0 : Nat) (a1 : Nat) : Option (Int32 × zH × Nat) := (z_gI h a0 0 0).bind fun r1 => (z_pV h a0 0 0 (.int (r1 + (1 : Int32)))).bind fun h_2 => (z_gR h_2 a0 0 1).bind fun r3 => (z_gI h_2 a0 0 2).bind fun r4 => (z_ck h_2 a0 0).bind fun _ => (M_Jx4a65c_add_72be8 h_2 nx t0 a0 a1 r3 r4).bind fun r6 => (some ((1 : Int32), r6.1, r6.2))
noncomputable def M_J7_fill_53178 (h : zH) (a0 : Nat) (x1 : Int32) : Option (zH) := (z_al h a0).bind fun r1 => wl2 (fun rec2 (x2_2 : Int32) (h_2 : zH) => (if r1 ≤ x2_2 then (some h_2) else (z_sI h_2 a0 x2_2 x1).bind fun h_3 => (rec2 (x2_2 + (1 : Int32)) h_3))) 700 (0 : Int32) h
noncomputable def M_Jx4a65c_fastRemove_b59b0 (h : zH) (a0 : Nat) (a1 : Nat) (x2 : Int32) : Option (zH) := (z_gI h a0 0 0).bind fun r1 => (z_pV h a0 0 0 (.int (r1 + (1 : Int32)))).bind fun h_2 => (z_gI h_2 a0 0 2).bind fun r3 => jn1 (fun (h_4 : zH) => (z_pV h_4 a0 0 2 (.int (r3 - (1 : Int32)))).bind fun h_5 => (z_sR h_5 a1 (r3 - (1 : Int32)) none).bind fun h_6 => (some h_6)) fun J4 => (if (r3 - (1 : Int32)) ≤ x2 then (J4 h_2) else (z_cpQ h_2 a1 (x2 + (1 : Int32)) a1 x2 ((r3 - (1 : Int32)) - x2)).bind fun h_7 => (J4 h_7))
noncomputable def M_Jx4a65c_remove_915e3 (h : zH) (a0 : Nat) (x1 : Int32) : Option (Nat × zH) := (z_gI h a0 0 2).bind fun r1 => (M_J15_checkIndex_7cf53 x1 r1).bind fun r2 => (z_gR h a0 0 1).bind fun r3 => (z_aR h r3 x1).bind fun r4 => (z_ck h a0 0).bind fun _ => (M_Jx4a65c_fastRemove_b59b0 h a0 r3 x1).bind fun r6 => (some (r4, r6))
set_option maxHeartbeats 4000000 in
set_option maxRecDepth 100000 in
theorem c_Jxa1e45_init_da8c8 (l : Launch) (hl : l.stackTraces = false) (G : zG) (lo t0 : Nat) (h : zH) (nx : Nat) (a0 : Nat) (o : Unit) (hM : M_Jxa1e45_init_da8c8 a0 = some o) : z_Met l yJxa1e45_init_da8c8 cJxa1e45_init_da8c8 1 none 1 22 G lo t0 [.ref a0] h nx (.inr (none, h, nx)) 0 0 := by
  refine z_of [(0, .ref a0)] (by decide) (Nat.le_of_ble_eq_true rfl) rfl (fun p e s m below meth c C hin => ?_)
  unfold M_Jxa1e45_init_da8c8 at hM
  refine z_aload_n (k := 0) (pc := 0) C dJxa1e45_init_da8c8_0 rfl ?_
  refine z_obj (pc := 1) C q_54 q_11 q_12 (Nat.le_of_ble_eq_true rfl) (Nat.le_of_ble_eq_true rfl) dJxa1e45_init_da8c8_1 ?_
  cases hM
  exact z_vret (pc := 4) C rfl (Nat.zero_le _) (Nat.zero_le _) dJxa1e45_init_da8c8_4
set_option maxHeartbeats 4000000 in
set_option maxRecDepth 100000 in
theorem c_Jxc12de_init_da8c8 (l : Launch) (hl : l.stackTraces = false) (G : zG) (lo t0 : Nat) (h : zH) (nx : Nat) (a0 : Nat) (o : zH) (hM : M_Jxc12de_init_da8c8 h a0 = some o) : z_Met l yJxc12de_init_da8c8 cJxc12de_init_da8c8 1 none 2 42 G lo t0 [.ref a0] h nx (.inr (none, o, nx)) 0 0 := by
  refine z_of [(0, .ref a0)] (by decide) (Nat.le_of_ble_eq_true rfl) rfl (fun p e s m below meth c C hin => ?_)
  unfold M_Jxc12de_init_da8c8 at hM
  refine z_aload_n (k := 0) (pc := 0) C dJxc12de_init_da8c8_0 rfl ?_
  obtain ⟨r1, g1, hM⟩ := Option.bind_eq_some_iff.mp hM
  refine z_goN (kc := 0) (ks := 0) ([]) (z_callI (pc := 1) (As := []) (rest := []) (n := 0) C (c_Jxa1e45_init_da8c8 l hl G lo t0 h nx a0 r1 g1) rfl q_50 q_51 q_52 q_53 ⟨by decide +kernel, by decide +kernel, by decide +kernel⟩ ⟨Nat.le_of_ble_eq_true rfl, Nat.le_of_ble_eq_true rfl⟩ rfl (Nat.le_of_ble_eq_true rfl) dJxc12de_init_da8c8_1 ⟨(Nat.zero_le _), (Nat.zero_le _)⟩) rfl (Nat.le_of_ble_eq_true rfl) (Nat.le_of_ble_eq_true rfl) ?_
  refine z_aload_n (k := 0) (pc := 4) C dJxc12de_init_da8c8_4 rfl ?_
  refine z_iconst (v := (0 : Int32)) (pc := 5) C dJxc12de_init_da8c8_5 (by decide) ?_
  obtain ⟨h_2, g2, hM⟩ := Option.bind_eq_some_iff.mp hM
  refine z_put (pc := 6) (k := 0) C g2 rfl inlJx4a65c tyJx4a65c tyJx4a65c_ok nmJx4a65c (by decide) q_49 (fun _ h9 => h9) rfl (tyJx4a65c_ok 0 (by decide)) rfl rfl dJxc12de_init_da8c8_6 ?_
  cases hM
  exact z_vret (pc := 9) C rfl (Nat.zero_le _) (Nat.zero_le _) dJxc12de_init_da8c8_9
set_option maxHeartbeats 4000000 in
set_option maxRecDepth 100000 in
theorem c_Jx4a65c_init_da8c8 (l : Launch) (hl : l.stackTraces = false) (G : zG) (lo t0 : Nat) (h : zH) (nx : Nat) (a0 : Nat) (o : zH) (hM : M_Jx4a65c_init_da8c8 h t0 a0 = some o) : z_Met l yJx4a65c_init_da8c8 cJx4a65c_init_da8c8 1 none 3 62 G lo t0 [.ref a0] h nx (.inr (none, o, nx)) 0 0 := by
  refine z_of [(0, .ref a0)] (by decide) (Nat.le_of_ble_eq_true rfl) rfl (fun p e s m below meth c C hin => ?_)
  unfold M_Jx4a65c_init_da8c8 at hM
  refine z_aload_n (k := 0) (pc := 0) C dJx4a65c_init_da8c8_0 rfl ?_
  obtain ⟨r1, g1, hM⟩ := Option.bind_eq_some_iff.mp hM
  refine z_goN (kc := 0) (ks := 0) ([]) (z_callI (pc := 1) (As := []) (rest := []) (n := 0) C (c_Jxc12de_init_da8c8 l hl G lo t0 h nx a0 r1 g1) rfl q_45 q_46 q_47 q_48 ⟨by decide +kernel, by decide +kernel, by decide +kernel⟩ ⟨Nat.le_of_ble_eq_true rfl, Nat.le_of_ble_eq_true rfl⟩ rfl (Nat.le_of_ble_eq_true rfl) dJx4a65c_init_da8c8_1 ⟨(Nat.zero_le _), (Nat.zero_le _)⟩) rfl (Nat.le_of_ble_eq_true rfl) (Nat.le_of_ble_eq_true rfl) ?_
  refine z_aload_n (k := 0) (pc := 4) C dJx4a65c_init_da8c8_4 rfl ?_
  refine z_gets (pc := 5) C q_43 dJx4a65c_init_da8c8_5 ?_
  obtain ⟨h_2, g2, hM⟩ := Option.bind_eq_some_iff.mp hM
  refine z_put (pc := 8) (k := 1) C g2 rfl inlJx4a65c tyJx4a65c tyJx4a65c_ok nmJx4a65c (by decide) q_44 (fun _ h9 => h9) rfl (tyJx4a65c_ok 1 (by decide)) rfl rfl dJx4a65c_init_da8c8_8 ?_
  cases hM
  exact z_vret (pc := 11) C rfl (Nat.zero_le _) (Nat.zero_le _) dJx4a65c_init_da8c8_11
set_option maxHeartbeats 4000000 in
set_option maxRecDepth 100000 in
theorem c_Jx4a65c_size_8abf5 (l : Launch) (hl : l.stackTraces = false) (G : zG) (lo t0 : Nat) (h : zH) (nx : Nat) (a0 : Nat) (o : Int32) (hM : M_Jx4a65c_size_8abf5 h a0 = some o) : z_Met l yJx4a65c_size_8abf5 cJx4a65c_size_8abf5 1 (some .int) 0 0 G lo t0 [.ref a0] h nx (.inr (some (.int o), h, nx)) 0 0 := by
  refine z_of [(0, .ref a0)] (by decide) (Nat.le_of_ble_eq_true rfl) rfl (fun p e s m below meth c C hin => ?_)
  unfold M_Jx4a65c_size_8abf5 at hM
  refine z_aload_n (k := 0) (pc := 0) C dJx4a65c_size_8abf5_0 rfl ?_
  obtain ⟨r1, g1, hM⟩ := Option.bind_eq_some_iff.mp hM
  refine z_getI (pc := 1) (k := 2) C g1 rfl inlJx4a65c (by decide) q_109 (fun _ h9 => h9) dJx4a65c_size_8abf5_1 ?_
  cases hM
  exact z_iret (pc := 4) C rfl (Nat.zero_le _) (Nat.zero_le _) dJx4a65c_size_8abf5_4
set_option maxHeartbeats 4000000 in
set_option maxRecDepth 100000 in
theorem c_J3_checkIndex_8e157 (l : Launch) (hl : l.stackTraces = false) (G : zG) (lo t0 : Nat) (h : zH) (nx : Nat) (x0 : Int32) (x1 : Int32) (o : Int32) (hM : M_J3_checkIndex_8e157 x0 x1 = some o) : z_Met l yJ3_checkIndex_8e157 cJ3_checkIndex_8e157 3 (some .int) 0 0 G lo t0 [.int x0, .int x1, .null] h nx (.inr (some (.int o), h, nx)) 0 0 := by
  refine z_of [(0, .int x0), (1, .int x1), (2, .null)] (by decide) (Nat.le_of_ble_eq_true rfl) rfl (fun p e s m below meth c C hin => ?_)
  unfold M_J3_checkIndex_8e157 at hM
  refine z_iload_n (k := 0) (pc := 0) C dJ3_checkIndex_8e157_0 rfl ?_
  refine z_if_lt (pc := 1) (tgt := 9) C dJ3_checkIndex_8e157_1 (by decide) hM (fun hc2 hM => ?_) (fun hc2 hM => ?_)
  · cases hM
  · refine z_iload_n (k := 0) (pc := 4) C dJ3_checkIndex_8e157_4 rfl ?_
    refine z_iload_n (k := 1) (pc := 5) C dJ3_checkIndex_8e157_5 rfl ?_
    refine z_icmp_lt (pc := 6) (tgt := 16) C dJ3_checkIndex_8e157_6 (by decide) hM (fun hc1 hM => ?_) (fun hc1 hM => ?_)
    · refine z_iload_n (k := 0) (pc := 16) C dJ3_checkIndex_8e157_16 rfl ?_
      cases hM
      exact z_iret (pc := 17) C rfl (Nat.zero_le _) (Nat.zero_le _) dJ3_checkIndex_8e157_17
    · cases hM
set_option maxHeartbeats 4000000 in
set_option maxRecDepth 100000 in
theorem c_J15_checkIndex_7cf53 (l : Launch) (hl : l.stackTraces = false) (G : zG) (lo t0 : Nat) (h : zH) (nx : Nat) (x0 : Int32) (x1 : Int32) (o : Int32) (hM : M_J15_checkIndex_7cf53 x0 x1 = some o) : z_Met l yJ15_checkIndex_7cf53 cJ15_checkIndex_7cf53 2 (some .int) 1 22 G lo t0 [.int x0, .int x1] h nx (.inr (some (.int o), h, nx)) 0 0 := by
  refine z_of [(0, .int x0), (1, .int x1)] (by decide) (Nat.le_of_ble_eq_true rfl) rfl (fun p e s m below meth c C hin => ?_)
  unfold M_J15_checkIndex_7cf53 at hM
  refine z_iload_n (k := 0) (pc := 0) C dJ15_checkIndex_7cf53_0 rfl ?_
  refine z_iload_n (k := 1) (pc := 1) C dJ15_checkIndex_7cf53_1 rfl ?_
  refine z_null (pc := 2) C dJ15_checkIndex_7cf53_2 ?_
  obtain ⟨r1, g1, hM⟩ := Option.bind_eq_some_iff.mp hM
  refine z_goN (kc := 0) (ks := 0) ([.int r1]) (z_callS (pc := 3) (As := [.int x0, .int x1, .null]) (rest := []) (n := 3) C (c_J3_checkIndex_8e157 l hl G lo t0 h nx x0 x1 r1 g1) q_195 q_196 q_197 q_198 ⟨by decide +kernel, by decide +kernel, by decide +kernel⟩ ⟨Nat.le_of_ble_eq_true rfl, Nat.le_of_ble_eq_true rfl⟩ rfl (Nat.le_of_ble_eq_true rfl) dJ15_checkIndex_7cf53_3 ⟨(Nat.zero_le _), (Nat.zero_le _)⟩) rfl (Nat.le_of_ble_eq_true rfl) (Nat.le_of_ble_eq_true rfl) ?_
  cases hM
  exact z_iret (pc := 6) C rfl (Nat.zero_le _) (Nat.zero_le _) dJ15_checkIndex_7cf53_6
set_option maxHeartbeats 4000000 in
set_option maxRecDepth 100000 in
theorem c_Jx4a65c_elementData_915e3 (l : Launch) (hl : l.stackTraces = false) (G : zG) (lo t0 : Nat) (h : zH) (nx : Nat) (a0 : Nat) (x1 : Int32) (o : Nat) (hM : M_Jx4a65c_elementData_915e3 h a0 x1 = some o) : z_Met l yJx4a65c_elementData_915e3 cJx4a65c_elementData_915e3 2 (some (.object "java/lang/Object")) 0 0 G lo t0 [.ref a0, .int x1] h nx (.inr (some (.ref o), h, nx)) 0 0 := by
  refine z_of [(0, .ref a0), (1, .int x1)] (by decide) (Nat.le_of_ble_eq_true rfl) rfl (fun p e s m below meth c C hin => ?_)
  unfold M_Jx4a65c_elementData_915e3 at hM
  refine z_aload_n (k := 0) (pc := 0) C dJx4a65c_elementData_915e3_0 rfl ?_
  obtain ⟨r1, g1, hM⟩ := Option.bind_eq_some_iff.mp hM
  refine z_getR (pc := 1) (k := 1) C g1 rfl inlJx4a65c (by decide) q_44 (fun _ h9 => h9) dJx4a65c_elementData_915e3_1 ?_
  refine z_iload_n (k := 1) (pc := 4) C dJx4a65c_elementData_915e3_4 rfl ?_
  obtain ⟨r2, g2, hM⟩ := Option.bind_eq_some_iff.mp hM
  refine z_aald (pc := 5) C g2 dJx4a65c_elementData_915e3_5 ?_
  cases hM
  exact z_aret (pc := 6) C (Or.inl ⟨_, rfl⟩) rfl (Nat.zero_le _) (Nat.zero_le _) dJx4a65c_elementData_915e3_6
set_option maxHeartbeats 4000000 in
set_option maxRecDepth 100000 in
theorem c_Jx4a65c_get_915e3 (l : Launch) (hl : l.stackTraces = false) (G : zG) (lo t0 : Nat) (h : zH) (nx : Nat) (a0 : Nat) (x1 : Int32) (o : Nat) (hM : M_Jx4a65c_get_915e3 h a0 x1 = some o) : z_Met l yJx4a65c_get_915e3 cJx4a65c_get_915e3 2 (some (.object "java/lang/Object")) 2 43 G lo t0 [.ref a0, .int x1] h nx (.inr (some (.ref o), h, nx)) 0 0 := by
  refine z_of [(0, .ref a0), (1, .int x1)] (by decide) (Nat.le_of_ble_eq_true rfl) rfl (fun p e s m below meth c C hin => ?_)
  unfold M_Jx4a65c_get_915e3 at hM
  refine z_iload_n (k := 1) (pc := 0) C dJx4a65c_get_915e3_0 rfl ?_
  refine z_aload_n (k := 0) (pc := 1) C dJx4a65c_get_915e3_1 rfl ?_
  obtain ⟨r1, g1, hM⟩ := Option.bind_eq_some_iff.mp hM
  refine z_getI (pc := 2) (k := 2) C g1 rfl inlJx4a65c (by decide) q_109 (fun _ h9 => h9) dJx4a65c_get_915e3_2 ?_
  obtain ⟨r2, g2, hM⟩ := Option.bind_eq_some_iff.mp hM
  refine z_goN (kc := 0) (ks := 0) ([.int r2]) (z_callS (pc := 5) (As := [.int x1, .int r1]) (rest := []) (n := 2) C (c_J15_checkIndex_7cf53 l hl G lo t0 h nx x1 r1 r2 g2) q_191 q_192 q_193 q_194 ⟨by decide +kernel, by decide +kernel, by decide +kernel⟩ ⟨Nat.le_of_ble_eq_true rfl, Nat.le_of_ble_eq_true rfl⟩ rfl (Nat.le_of_ble_eq_true rfl) dJx4a65c_get_915e3_5 ⟨(Nat.zero_le _), (Nat.zero_le _)⟩) rfl (Nat.le_of_ble_eq_true rfl) (Nat.le_of_ble_eq_true rfl) ?_
  refine z_pop (pc := 8) C dJx4a65c_get_915e3_8 rfl ?_
  refine z_aload_n (k := 0) (pc := 9) C dJx4a65c_get_915e3_9 rfl ?_
  refine z_iload_n (k := 1) (pc := 10) C dJx4a65c_get_915e3_10 rfl ?_
  obtain ⟨_, g3, hM⟩ := Option.bind_eq_some_iff.mp hM
  obtain ⟨r4, g4, hM⟩ := Option.bind_eq_some_iff.mp hM
  refine z_goN (kc := 0) (ks := 0) ([.ref r4]) (z_callV (pc := 11) (As := [.int x1]) (rest := []) (n := 1) (ci := 0) C (c_Jx4a65c_elementData_915e3 l hl G lo t0 h nx a0 x1 r4 g4) g3 rfl q_199 q_200 q_201 q_23 q_202 ⟨rfl, by decide +kernel, by decide +kernel, by decide +kernel⟩ ⟨Nat.le_of_ble_eq_true rfl, Nat.le_of_ble_eq_true rfl⟩ rfl (Nat.le_of_ble_eq_true rfl) dJx4a65c_get_915e3_11 ⟨(Nat.zero_le _), (Nat.zero_le _)⟩) rfl (Nat.le_of_ble_eq_true rfl) (Nat.le_of_ble_eq_true rfl) ?_
  cases hM
  exact z_aret (pc := 14) C (Or.inl ⟨_, rfl⟩) rfl (Nat.zero_le _) (Nat.zero_le _) dJx4a65c_get_915e3_14
set_option maxHeartbeats 4000000 in
set_option maxRecDepth 100000 in
theorem c_Jx4a65c_grow_92f84 (l : Launch) (hl : l.stackTraces = false) (G : zG) (lo t0 : Nat) (h : zH) (nx : Nat) (a0 : Nat) (x1 : Int32) (o : Nat × zH × Nat) (hM : M_Jx4a65c_grow_92f84 h nx t0 a0 x1 = some o) : z_Met l yJx4a65c_grow_92f84 cJx4a65c_grow_92f84 4 (some (.array (.object "java/lang/Object"))) 1 22 G lo t0 [.ref a0, .int x1] h nx (.inr (some (.ref o.1), o.2.1, o.2.2)) 1 10 := by
  refine z_of [(0, .ref a0), (1, .int x1)] (by decide) (Nat.le_of_ble_eq_true rfl) rfl (fun p e s m below meth c C hin => ?_)
  unfold M_Jx4a65c_grow_92f84 at hM
  refine z_aload_n (k := 0) (pc := 0) C dJx4a65c_grow_92f84_0 rfl ?_
  obtain ⟨r1, g1, hM⟩ := Option.bind_eq_some_iff.mp hM
  refine z_getR (pc := 1) (k := 1) C g1 rfl inlJx4a65c (by decide) q_44 (fun _ h9 => h9) dJx4a65c_grow_92f84_1 ?_
  obtain ⟨r2, g2, hM⟩ := Option.bind_eq_some_iff.mp hM
  refine z_alen (pc := 4) C g2 dJx4a65c_grow_92f84_4 ?_
  refine z_istore_n (lv' := [(2, .int r2), (0, .ref a0), (1, .int x1)]) (pc := 5) C dJx4a65c_grow_92f84_5 (by decide) rfl ?_
  refine z_iload_n (k := 0) (pc := 6) C dJx4a65c_grow_92f84_6 rfl ?_
  refine z_if_gt (pc := 7) (tgt := 20) C dJx4a65c_grow_92f84_7 (by decide) hM (fun hc7 hM => ?_) (fun hc7 hM => ?_)
  · cases hM
  · refine z_aload_n (k := 1) (pc := 10) C dJx4a65c_grow_92f84_10 rfl ?_
    obtain ⟨r3, g3, hM⟩ := Option.bind_eq_some_iff.mp hM
    refine z_getR (pc := 11) (k := 1) C g3 rfl inlJx4a65c (by decide) q_44 (fun _ h9 => h9) dJx4a65c_grow_92f84_11 ?_
    refine z_gets (pc := 14) C q_43 dJx4a65c_grow_92f84_14 ?_
    refine z_acmp_eq (pc := 17) (tgt := 45) C dJx4a65c_grow_92f84_17 (by decide) hM (fun hc6 hM => ?_) (fun hc6 hM => ?_)
    · refine z_aload_n (k := 1) (pc := 45) C dJx4a65c_grow_92f84_45 rfl ?_
      refine z_bipush (v := (10 : Int32)) (pc := 46) C dJx4a65c_grow_92f84_46 (by decide) ?_
      refine z_iload_n (k := 2) (pc := 48) C dJx4a65c_grow_92f84_48 rfl ?_
      refine z_max (pc := 49) C q_144 q_145 q_146 q_147 (Nat.le_of_ble_eq_true rfl) (Nat.le_of_ble_eq_true rfl) (Nat.zero_le _) (Nat.zero_le _) dJx4a65c_grow_92f84_49 ?_
      obtain ⟨hc4, hM⟩ := z_gy hM
      refine z_newQ (pc := 52) (n' := 10) C q_148 (by rw [hc4]; decide) (by rw [hc4]; decide) (by decide) (Nat.le_of_ble_eq_true rfl) (Nat.le_of_ble_eq_true rfl) dJx4a65c_grow_92f84_52 ?_
      refine z_dup_x1 (pc := 55) C dJx4a65c_grow_92f84_55 rfl rfl ?_
      obtain ⟨h_5, g5, hM⟩ := Option.bind_eq_some_iff.mp hM
      refine z_put (pc := 56) (k := 1) C g5 rfl inlJx4a65c tyJx4a65c tyJx4a65c_ok nmJx4a65c (by decide) q_44 (fun _ h9 => h9) rfl (tyJx4a65c_ok 1 (by decide)) rfl rfl dJx4a65c_grow_92f84_56 ?_
      cases hM
      exact z_aret (pc := 59) C (Or.inr ⟨_, rfl⟩) rfl (Nat.le_of_ble_eq_true rfl) (Nat.le_of_ble_eq_true rfl) dJx4a65c_grow_92f84_59
    · cases hM
set_option maxHeartbeats 4000000 in
set_option maxRecDepth 100000 in
theorem c_Jx4a65c_grow_d5877 (l : Launch) (hl : l.stackTraces = false) (G : zG) (lo t0 : Nat) (h : zH) (nx : Nat) (a0 : Nat) (o : Nat × zH × Nat) (hM : M_Jx4a65c_grow_d5877 h nx t0 a0 = some o) : z_Met l yJx4a65c_grow_d5877 cJx4a65c_grow_d5877 1 (some (.array (.object "java/lang/Object"))) 2 45 G lo t0 [.ref a0] h nx (.inr (some (.ref o.1), o.2.1, o.2.2)) 1 10 := by
  refine z_of [(0, .ref a0)] (by decide) (Nat.le_of_ble_eq_true rfl) rfl (fun p e s m below meth c C hin => ?_)
  unfold M_Jx4a65c_grow_d5877 at hM
  refine z_aload_n (k := 0) (pc := 0) C dJx4a65c_grow_d5877_0 rfl ?_
  refine z_aload_n (k := 0) (pc := 1) C dJx4a65c_grow_d5877_1 rfl ?_
  obtain ⟨r1, g1, hM⟩ := Option.bind_eq_some_iff.mp hM
  refine z_getI (pc := 2) (k := 2) C g1 rfl inlJx4a65c (by decide) q_109 (fun _ h9 => h9) dJx4a65c_grow_d5877_2 ?_
  refine z_iconst (v := (1 : Int32)) (pc := 5) C dJx4a65c_grow_d5877_5 (by decide) ?_
  refine z_iadd (pc := 6) C dJx4a65c_grow_d5877_6 ?_
  obtain ⟨_, g2, hM⟩ := Option.bind_eq_some_iff.mp hM
  obtain ⟨r3, g3, hM⟩ := Option.bind_eq_some_iff.mp hM
  refine z_goN (kc := 1) (ks := 10) ([.ref r3.1]) (z_callV (pc := 7) (As := [.int (r1 + (1 : Int32))]) (rest := []) (n := 1) (ci := 0) C (c_Jx4a65c_grow_92f84 l hl G lo t0 h nx a0 (r1 + (1 : Int32)) r3 g3) g2 rfl q_140 q_141 q_142 q_23 q_143 ⟨rfl, by decide +kernel, by decide +kernel, by decide +kernel⟩ ⟨Nat.le_of_ble_eq_true rfl, Nat.le_of_ble_eq_true rfl⟩ rfl (Nat.le_of_ble_eq_true rfl) dJx4a65c_grow_d5877_7 ⟨(Nat.le_of_ble_eq_true rfl), (Nat.le_of_ble_eq_true rfl)⟩) rfl (Nat.le_of_ble_eq_true rfl) (Nat.le_of_ble_eq_true rfl) ?_
  cases hM
  exact z_aret (pc := 10) C (Or.inr ⟨_, rfl⟩) rfl (Nat.le_of_ble_eq_true rfl) (Nat.le_of_ble_eq_true rfl) dJx4a65c_grow_d5877_10
set_option maxHeartbeats 4000000 in
set_option maxRecDepth 100000 in
theorem c_Jx4a65c_add_72be8 (l : Launch) (hl : l.stackTraces = false) (G : zG) (lo t0 : Nat) (h : zH) (nx : Nat) (a0 : Nat) (a1 : Nat) (a2 : Nat) (x3 : Int32) (o : zH × Nat) (hM : M_Jx4a65c_add_72be8 h nx t0 a0 a1 a2 x3 = some o) : z_Met l yJx4a65c_add_72be8 cJx4a65c_add_72be8 4 none 3 65 G lo t0 [.ref a0, .ref a1, .ref a2, .int x3] h nx (.inr (none, o.1, o.2)) 1 10 := by
  refine z_of [(0, .ref a0), (1, .ref a1), (2, .ref a2), (3, .int x3)] (by decide) (Nat.le_of_ble_eq_true rfl) rfl (fun p e s m below meth c C hin => ?_)
  unfold M_Jx4a65c_add_72be8 at hM
  refine z_iload_n (k := 3) (pc := 0) C dJx4a65c_add_72be8_0 rfl ?_
  refine z_aload_n (k := 2) (pc := 1) C dJx4a65c_add_72be8_1 rfl ?_
  obtain ⟨r1, g1, hM⟩ := Option.bind_eq_some_iff.mp hM
  refine z_alen (pc := 2) C g1 dJx4a65c_add_72be8_2 ?_
  refine zj3 1 10 11 (fun (a2_2 : Nat) (h_2 : zH) (n_2 : Nat) => [(0, .ref a0), (1, .ref a1), (2, .ref a2_2), (3, .int x3)]) (fun (a2_2 : Nat) (h_2 : zH) (n_2 : Nat) => []) (fun (a2_2 : Nat) (h_2 : zH) (n_2 : Nat) => h_2) (fun (a2_2 : Nat) (h_2 : zH) (n_2 : Nat) => n_2) hM (fun a2_2 h_2 n_2 hM => ?_) (fun J2 iJ2 hM => ?_)
  · refine z_aload_n (k := 2) (pc := 11) C dJx4a65c_add_72be8_11 rfl ?_
    refine z_iload_n (k := 3) (pc := 12) C dJx4a65c_add_72be8_12 rfl ?_
    refine z_aload_n (k := 1) (pc := 13) C dJx4a65c_add_72be8_13 rfl ?_
    obtain ⟨h_3, g3, hM⟩ := Option.bind_eq_some_iff.mp hM
    refine z_aastE (pc := 14) C g3 dJx4a65c_add_72be8_14 ?_
    refine z_aload_n (k := 0) (pc := 15) C dJx4a65c_add_72be8_15 rfl ?_
    refine z_iload_n (k := 3) (pc := 16) C dJx4a65c_add_72be8_16 rfl ?_
    refine z_iconst (v := (1 : Int32)) (pc := 17) C dJx4a65c_add_72be8_17 (by decide) ?_
    refine z_iadd (pc := 18) C dJx4a65c_add_72be8_18 ?_
    obtain ⟨h_4, g4, hM⟩ := Option.bind_eq_some_iff.mp hM
    refine z_put (pc := 19) (k := 2) C g4 rfl inlJx4a65c tyJx4a65c tyJx4a65c_ok nmJx4a65c (by decide) q_109 (fun _ h9 => h9) rfl (tyJx4a65c_ok 2 (by decide)) rfl rfl dJx4a65c_add_72be8_19 ?_
    cases hM
    exact z_vret (pc := 22) C rfl (Nat.le_of_ble_eq_true rfl) (Nat.le_of_ble_eq_true rfl) dJx4a65c_add_72be8_22
  refine z_icmp_ne (pc := 3) (tgt := 11) C dJx4a65c_add_72be8_3 (by decide) hM (fun hc7 hM => ?_) (fun hc7 hM => ?_)
  · refine z_aload_n (k := 0) (pc := 6) C dJx4a65c_add_72be8_6 rfl ?_
    obtain ⟨_, g5, hM⟩ := Option.bind_eq_some_iff.mp hM
    obtain ⟨r6, g6, hM⟩ := Option.bind_eq_some_iff.mp hM
    refine z_goN (kc := 1) (ks := 10) ([.ref r6.1]) (z_callV (pc := 7) (As := []) (rest := []) (n := 0) (ci := 0) C (c_Jx4a65c_grow_d5877 l hl G lo t0 h nx a0 r6 g6) g5 rfl q_136 q_137 q_138 q_23 q_139 ⟨rfl, by decide +kernel, by decide +kernel, by decide +kernel⟩ ⟨Nat.le_of_ble_eq_true rfl, Nat.le_of_ble_eq_true rfl⟩ rfl (Nat.le_of_ble_eq_true rfl) dJx4a65c_add_72be8_7 ⟨(Nat.le_of_ble_eq_true rfl), (Nat.le_of_ble_eq_true rfl)⟩) rfl (Nat.le_of_ble_eq_true rfl) (Nat.le_of_ble_eq_true rfl) ?_
    refine z_astore_n (lv' := [(2, .ref r6.1), (0, .ref a0), (1, .ref a1), (3, .int x3)]) (pc := 10) C dJx4a65c_add_72be8_10 (by decide) rfl ?_
    exact z_sub [1, 2, 0, 3] rfl (iJ2 r6.1 r6.2.1 r6.2.2 hM)
  · refine z_wide (kc := 1) (ks := 10) (Nat.le_of_ble_eq_true rfl) (Nat.le_of_ble_eq_true rfl) ?_
    exact z_sub [0, 1, 2, 3] rfl (iJ2 a2 h nx hM)
set_option maxHeartbeats 4000000 in
set_option maxRecDepth 100000 in
theorem c_Jx4a65c_add_9ea2d (l : Launch) (hl : l.stackTraces = false) (G : zG) (lo t0 : Nat) (h : zH) (nx : Nat) (a0 : Nat) (a1 : Nat) (o : Int32 × zH × Nat) (hM : M_Jx4a65c_add_9ea2d h nx t0 a0 a1 = some o) : z_Met l yJx4a65c_add_9ea2d cJx4a65c_add_9ea2d 2 (some .boolean) 4 88 G lo t0 [.ref a0, .ref a1] h nx (.inr (some (.int o.1), o.2.1, o.2.2)) 1 10 := by
  refine z_of [(0, .ref a0), (1, .ref a1)] (by decide) (Nat.le_of_ble_eq_true rfl) rfl (fun p e s m below meth c C hin => ?_)
  unfold M_Jx4a65c_add_9ea2d at hM
  refine z_aload_n (k := 0) (pc := 0) C dJx4a65c_add_9ea2d_0 rfl ?_
  refine z_dup (pc := 1) C dJx4a65c_add_9ea2d_1 rfl ?_
  obtain ⟨r1, g1, hM⟩ := Option.bind_eq_some_iff.mp hM
  refine z_getI (pc := 2) (k := 0) C g1 rfl inlJx4a65c (by decide) q_130 (fun x h9 => u_same (C.1.2.2.2.2 _ q_131) x h9) dJx4a65c_add_9ea2d_2 ?_
  refine z_iconst (v := (1 : Int32)) (pc := 5) C dJx4a65c_add_9ea2d_5 (by decide) ?_
  refine z_iadd (pc := 6) C dJx4a65c_add_9ea2d_6 ?_
  obtain ⟨h_2, g2, hM⟩ := Option.bind_eq_some_iff.mp hM
  refine z_put (pc := 7) (k := 0) C g2 rfl inlJx4a65c tyJx4a65c tyJx4a65c_ok nmJx4a65c (by decide) q_130 (fun x h9 => u_same (C.1.2.2.2.2 _ q_131) x h9) rfl (tyJx4a65c_ok 0 (by decide)) rfl rfl dJx4a65c_add_9ea2d_7 ?_
  refine z_aload_n (k := 0) (pc := 10) C dJx4a65c_add_9ea2d_10 rfl ?_
  refine z_aload_n (k := 1) (pc := 11) C dJx4a65c_add_9ea2d_11 rfl ?_
  refine z_aload_n (k := 0) (pc := 12) C dJx4a65c_add_9ea2d_12 rfl ?_
  obtain ⟨r3, g3, hM⟩ := Option.bind_eq_some_iff.mp hM
  refine z_getR (pc := 13) (k := 1) C g3 rfl inlJx4a65c (by decide) q_44 (fun _ h9 => h9) dJx4a65c_add_9ea2d_13 ?_
  refine z_aload_n (k := 0) (pc := 16) C dJx4a65c_add_9ea2d_16 rfl ?_
  obtain ⟨r4, g4, hM⟩ := Option.bind_eq_some_iff.mp hM
  refine z_getI (pc := 17) (k := 2) C g4 rfl inlJx4a65c (by decide) q_109 (fun _ h9 => h9) dJx4a65c_add_9ea2d_17 ?_
  obtain ⟨_, g5, hM⟩ := Option.bind_eq_some_iff.mp hM
  obtain ⟨r6, g6, hM⟩ := Option.bind_eq_some_iff.mp hM
  refine z_goN (kc := 1) (ks := 10) ([]) (z_callV (pc := 20) (As := [.ref a1, .ref r3, .int r4]) (rest := []) (n := 3) (ci := 0) C (c_Jx4a65c_add_72be8 l hl G lo t0 h_2 nx a0 a1 r3 r4 r6 g6) g5 rfl q_132 q_133 q_134 q_23 q_135 ⟨rfl, by decide +kernel, by decide +kernel, by decide +kernel⟩ ⟨Nat.le_of_ble_eq_true rfl, Nat.le_of_ble_eq_true rfl⟩ rfl (Nat.le_of_ble_eq_true rfl) dJx4a65c_add_9ea2d_20 ⟨(Nat.le_of_ble_eq_true rfl), (Nat.le_of_ble_eq_true rfl)⟩) rfl (Nat.le_of_ble_eq_true rfl) (Nat.le_of_ble_eq_true rfl) ?_
  refine z_iconst (v := (1 : Int32)) (pc := 23) C dJx4a65c_add_9ea2d_23 (by decide) ?_
  cases hM
  exact z_zret (pc := 24) C (Or.inr rfl) rfl (Nat.le_of_ble_eq_true rfl) (Nat.le_of_ble_eq_true rfl) dJx4a65c_add_9ea2d_24
set_option maxHeartbeats 4000000 in
set_option maxRecDepth 100000 in
theorem c_J7_fill_53178 (l : Launch) (hl : l.stackTraces = false) (G : zG) (lo t0 : Nat) (h : zH) (nx : Nat) (a0 : Nat) (x1 : Int32) (o : zH) (hM : M_J7_fill_53178 h a0 x1 = some o) : z_Met l yJ7_fill_53178 cJ7_fill_53178 4 none 0 0 G lo t0 [.ref a0, .int x1] h nx (.inr (none, o, nx)) 0 0 := by
  refine z_of [(0, .ref a0), (1, .int x1)] (by decide) (Nat.le_of_ble_eq_true rfl) rfl (fun p e s m below meth c C hin => ?_)
  unfold M_J7_fill_53178 at hM
  refine z_iconst (v := (0 : Int32)) (pc := 0) C dJ7_fill_53178_0 (by decide) ?_
  refine z_istore_n (lv' := [(2, .int (0 : Int32)), (0, .ref a0), (1, .int x1)]) (pc := 1) C dJ7_fill_53178_1 (by decide) rfl ?_
  refine z_aload_n (k := 1) (pc := 2) C dJ7_fill_53178_2 rfl ?_
  obtain ⟨r1, g1, hM⟩ := Option.bind_eq_some_iff.mp hM
  refine z_alen (pc := 3) C g1 dJ7_fill_53178_3 ?_
  refine z_istore_n (lv' := [(3, .int r1), (2, .int (0 : Int32)), (0, .ref a0), (1, .int x1)]) (pc := 4) C dJ7_fill_53178_4 (by decide) rfl ?_
  refine z_sub [2, 3, 1, 0] rfl (zl2 (fun (x2_2 : Int32) (h_2 : zH) => [(0, .ref a0), (1, .int x1), (2, .int x2_2), (3, .int r1)]) (fun (x2_2 : Int32) (h_2 : zH) => h_2) (fun (x2_2 : Int32) (h_2 : zH) => nx) hM (fun rec2 irec2 x2_2 h_2 hM => ?_))
  refine z_iload_n (k := 2) (pc := 5) C dJ7_fill_53178_5 rfl ?_
  refine z_iload_n (k := 3) (pc := 6) C dJ7_fill_53178_6 rfl ?_
  refine z_icmp_ge (pc := 7) (tgt := 20) C dJ7_fill_53178_7 (by decide) hM (fun hc4 hM => ?_) (fun hc4 hM => ?_)
  · cases hM
    exact z_vret (pc := 20) C rfl (Nat.zero_le _) (Nat.zero_le _) dJ7_fill_53178_20
  · refine z_aload_n (k := 0) (pc := 10) C dJ7_fill_53178_10 rfl ?_
    refine z_iload_n (k := 2) (pc := 11) C dJ7_fill_53178_11 rfl ?_
    refine z_iload_n (k := 1) (pc := 12) C dJ7_fill_53178_12 rfl ?_
    obtain ⟨h_3, g3, hM⟩ := Option.bind_eq_some_iff.mp hM
    refine z_iast (pc := 13) C g3 dJ7_fill_53178_13 ?_
    refine z_iinc (k := 2) (v := (x2_2 + (1 : Int32))) (lv' := [(2, .int (x2_2 + (1 : Int32))), (0, .ref a0), (1, .int x1), (3, .int r1)]) (pc := 14) C dJ7_fill_53178_14 rfl (by first | rfl | decide) (by decide) rfl ?_
    refine z_goto (pc := 17) (tgt := 5) C dJ7_fill_53178_17 (by decide) ?_
    exact z_sub [1, 2, 0, 3] rfl (irec2 (x2_2 + (1 : Int32)) h_3 hM)
set_option maxHeartbeats 4000000 in
set_option maxRecDepth 100000 in
theorem c_Jx4a65c_fastRemove_b59b0 (l : Launch) (hl : l.stackTraces = false) (G : zG) (lo t0 : Nat) (h : zH) (nx : Nat) (a0 : Nat) (a1 : Nat) (x2 : Int32) (o : zH) (hM : M_Jx4a65c_fastRemove_b59b0 h a0 a1 x2 = some o) : z_Met l yJx4a65c_fastRemove_b59b0 cJx4a65c_fastRemove_b59b0 4 none 1 60 G lo t0 [.ref a0, .ref a1, .int x2] h nx (.inr (none, o, nx)) 0 0 := by
  refine z_of [(0, .ref a0), (1, .ref a1), (2, .int x2)] (by decide) (Nat.le_of_ble_eq_true rfl) rfl (fun p e s m below meth c C hin => ?_)
  unfold M_Jx4a65c_fastRemove_b59b0 at hM
  refine z_aload_n (k := 0) (pc := 0) C dJx4a65c_fastRemove_b59b0_0 rfl ?_
  refine z_dup (pc := 1) C dJx4a65c_fastRemove_b59b0_1 rfl ?_
  obtain ⟨r1, g1, hM⟩ := Option.bind_eq_some_iff.mp hM
  refine z_getI (pc := 2) (k := 0) C g1 rfl inlJx4a65c (by decide) q_130 (fun x h9 => u_same (C.1.2.2.2.2 _ q_131) x h9) dJx4a65c_fastRemove_b59b0_2 ?_
  refine z_iconst (v := (1 : Int32)) (pc := 5) C dJx4a65c_fastRemove_b59b0_5 (by decide) ?_
  refine z_iadd (pc := 6) C dJx4a65c_fastRemove_b59b0_6 ?_
  obtain ⟨h_2, g2, hM⟩ := Option.bind_eq_some_iff.mp hM
  refine z_put (pc := 7) (k := 0) C g2 rfl inlJx4a65c tyJx4a65c tyJx4a65c_ok nmJx4a65c (by decide) q_130 (fun x h9 => u_same (C.1.2.2.2.2 _ q_131) x h9) rfl (tyJx4a65c_ok 0 (by decide)) rfl rfl dJx4a65c_fastRemove_b59b0_7 ?_
  refine z_aload_n (k := 0) (pc := 10) C dJx4a65c_fastRemove_b59b0_10 rfl ?_
  obtain ⟨r3, g3, hM⟩ := Option.bind_eq_some_iff.mp hM
  refine z_getI (pc := 11) (k := 2) C g3 rfl inlJx4a65c (by decide) q_109 (fun _ h9 => h9) dJx4a65c_fastRemove_b59b0_11 ?_
  refine z_iconst (v := (1 : Int32)) (pc := 14) C dJx4a65c_fastRemove_b59b0_14 (by decide) ?_
  refine z_isub (pc := 15) C dJx4a65c_fastRemove_b59b0_15 ?_
  refine z_dup (pc := 16) C dJx4a65c_fastRemove_b59b0_16 rfl ?_
  refine z_istore_n (lv' := [(3, .int (r3 - (1 : Int32))), (0, .ref a0), (1, .ref a1), (2, .int x2)]) (pc := 17) C dJx4a65c_fastRemove_b59b0_17 (by decide) rfl ?_
  refine z_iload_n (k := 3) (pc := 18) C dJx4a65c_fastRemove_b59b0_18 rfl ?_
  refine zj1 0 0 34 (fun (h_4 : zH) => [(0, .ref a0), (1, .ref a1), (3, .int (r3 - (1 : Int32)))]) (fun (h_4 : zH) => []) (fun (h_4 : zH) => h_4) (fun (h_4 : zH) => nx) hM (fun h_4 hM => ?_) (fun J4 iJ4 hM => ?_)
  · refine z_aload_n (k := 1) (pc := 34) C dJx4a65c_fastRemove_b59b0_34 rfl ?_
    refine z_aload_n (k := 0) (pc := 35) C dJx4a65c_fastRemove_b59b0_35 rfl ?_
    refine z_iload_n (k := 2) (pc := 36) C dJx4a65c_fastRemove_b59b0_36 rfl ?_
    refine z_dup_x1 (pc := 37) C dJx4a65c_fastRemove_b59b0_37 rfl rfl ?_
    obtain ⟨h_5, g5, hM⟩ := Option.bind_eq_some_iff.mp hM
    refine z_put (pc := 38) (k := 2) C g5 rfl inlJx4a65c tyJx4a65c tyJx4a65c_ok nmJx4a65c (by decide) q_109 (fun _ h9 => h9) rfl (tyJx4a65c_ok 2 (by decide)) rfl rfl dJx4a65c_fastRemove_b59b0_38 ?_
    refine z_null (pc := 41) C dJx4a65c_fastRemove_b59b0_41 ?_
    obtain ⟨h_6, g6, hM⟩ := Option.bind_eq_some_iff.mp hM
    refine z_aastN (pc := 42) C g6 dJx4a65c_fastRemove_b59b0_42 ?_
    cases hM
    exact z_vret (pc := 43) C rfl (Nat.zero_le _) (Nat.zero_le _) dJx4a65c_fastRemove_b59b0_43
  refine z_icmp_le (pc := 19) (tgt := 34) C dJx4a65c_fastRemove_b59b0_19 (by decide) hM (fun hc8 hM => ?_) (fun hc8 hM => ?_)
  · exact z_sub [1, 2, 0] rfl (iJ4 h_2 hM)
  · refine z_aload_n (k := 2) (pc := 22) C dJx4a65c_fastRemove_b59b0_22 rfl ?_
    refine z_iload_n (k := 3) (pc := 23) C dJx4a65c_fastRemove_b59b0_23 rfl ?_
    refine z_iconst (v := (1 : Int32)) (pc := 24) C dJx4a65c_fastRemove_b59b0_24 (by decide) ?_
    refine z_iadd (pc := 25) C dJx4a65c_fastRemove_b59b0_25 ?_
    refine z_aload_n (k := 2) (pc := 26) C dJx4a65c_fastRemove_b59b0_26 rfl ?_
    refine z_iload_n (k := 3) (pc := 27) C dJx4a65c_fastRemove_b59b0_27 rfl ?_
    refine z_iload_n (k := 0) (pc := 28) C dJx4a65c_fastRemove_b59b0_28 rfl ?_
    refine z_iload_n (k := 3) (pc := 29) C dJx4a65c_fastRemove_b59b0_29 rfl ?_
    refine z_isub (pc := 30) C dJx4a65c_fastRemove_b59b0_30 ?_
    obtain ⟨h_7, g7, hM⟩ := Option.bind_eq_some_iff.mp hM
    refine z_copyQ (pc := 31) C g7 q_366 q_175 q_176 q_177 (Nat.le_of_ble_eq_true rfl) (Nat.le_of_ble_eq_true rfl) dJx4a65c_fastRemove_b59b0_31 ?_
    exact z_sub [1, 2, 0] rfl (iJ4 h_7 hM)
set_option maxHeartbeats 4000000 in
set_option maxRecDepth 100000 in
theorem c_Jx4a65c_remove_915e3 (l : Launch) (hl : l.stackTraces = false) (G : zG) (lo t0 : Nat) (h : zH) (nx : Nat) (a0 : Nat) (x1 : Int32) (o : Nat × zH) (hM : M_Jx4a65c_remove_915e3 h a0 x1 = some o) : z_Met l yJx4a65c_remove_915e3 cJx4a65c_remove_915e3 4 (some (.object "java/lang/Object")) 2 83 G lo t0 [.ref a0, .int x1] h nx (.inr (some (.ref o.1), o.2, nx)) 0 0 := by
  refine z_of [(0, .ref a0), (1, .int x1)] (by decide) (Nat.le_of_ble_eq_true rfl) rfl (fun p e s m below meth c C hin => ?_)
  unfold M_Jx4a65c_remove_915e3 at hM
  refine z_iload_n (k := 1) (pc := 0) C dJx4a65c_remove_915e3_0 rfl ?_
  refine z_aload_n (k := 0) (pc := 1) C dJx4a65c_remove_915e3_1 rfl ?_
  obtain ⟨r1, g1, hM⟩ := Option.bind_eq_some_iff.mp hM
  refine z_getI (pc := 2) (k := 2) C g1 rfl inlJx4a65c (by decide) q_109 (fun _ h9 => h9) dJx4a65c_remove_915e3_2 ?_
  obtain ⟨r2, g2, hM⟩ := Option.bind_eq_some_iff.mp hM
  refine z_goN (kc := 0) (ks := 0) ([.int r2]) (z_callS (pc := 5) (As := [.int x1, .int r1]) (rest := []) (n := 2) C (c_J15_checkIndex_7cf53 l hl G lo t0 h nx x1 r1 r2 g2) q_191 q_192 q_193 q_194 ⟨by decide +kernel, by decide +kernel, by decide +kernel⟩ ⟨Nat.le_of_ble_eq_true rfl, Nat.le_of_ble_eq_true rfl⟩ rfl (Nat.le_of_ble_eq_true rfl) dJx4a65c_remove_915e3_5 ⟨(Nat.zero_le _), (Nat.zero_le _)⟩) rfl (Nat.le_of_ble_eq_true rfl) (Nat.le_of_ble_eq_true rfl) ?_
  refine z_pop (pc := 8) C dJx4a65c_remove_915e3_8 rfl ?_
  refine z_aload_n (k := 0) (pc := 9) C dJx4a65c_remove_915e3_9 rfl ?_
  obtain ⟨r3, g3, hM⟩ := Option.bind_eq_some_iff.mp hM
  refine z_getR (pc := 10) (k := 1) C g3 rfl inlJx4a65c (by decide) q_44 (fun _ h9 => h9) dJx4a65c_remove_915e3_10 ?_
  refine z_astore_n (lv' := [(2, .ref r3), (0, .ref a0), (1, .int x1)]) (pc := 13) C dJx4a65c_remove_915e3_13 (by decide) rfl ?_
  refine z_aload_n (k := 0) (pc := 14) C dJx4a65c_remove_915e3_14 rfl ?_
  refine z_iload_n (k := 2) (pc := 15) C dJx4a65c_remove_915e3_15 rfl ?_
  obtain ⟨r4, g4, hM⟩ := Option.bind_eq_some_iff.mp hM
  refine z_aald (pc := 16) C g4 dJx4a65c_remove_915e3_16 ?_
  refine z_astore_n (lv' := [(3, .ref r4), (2, .ref r3), (0, .ref a0), (1, .int x1)]) (pc := 17) C dJx4a65c_remove_915e3_17 (by decide) rfl ?_
  refine z_aload_n (k := 2) (pc := 18) C dJx4a65c_remove_915e3_18 rfl ?_
  refine z_aload_n (k := 1) (pc := 19) C dJx4a65c_remove_915e3_19 rfl ?_
  refine z_iload_n (k := 3) (pc := 20) C dJx4a65c_remove_915e3_20 rfl ?_
  obtain ⟨_, g5, hM⟩ := Option.bind_eq_some_iff.mp hM
  obtain ⟨r6, g6, hM⟩ := Option.bind_eq_some_iff.mp hM
  refine z_goN (kc := 0) (ks := 0) ([]) (z_callV (pc := 21) (As := [.ref r3, .int x1]) (rest := []) (n := 2) (ci := 0) C (c_Jx4a65c_fastRemove_b59b0 l hl G lo t0 h nx a0 r3 x1 r6 g6) g5 rfl q_362 q_363 q_364 q_23 q_365 ⟨rfl, by decide +kernel, by decide +kernel, by decide +kernel⟩ ⟨Nat.le_of_ble_eq_true rfl, Nat.le_of_ble_eq_true rfl⟩ rfl (Nat.le_of_ble_eq_true rfl) dJx4a65c_remove_915e3_21 ⟨(Nat.zero_le _), (Nat.zero_le _)⟩) rfl (Nat.le_of_ble_eq_true rfl) (Nat.le_of_ble_eq_true rfl) ?_
  refine z_aload_n (k := 0) (pc := 24) C dJx4a65c_remove_915e3_24 rfl ?_
  cases hM
  exact z_aret (pc := 25) C (Or.inl ⟨_, rfl⟩) rfl (Nat.zero_le _) (Nat.zero_le _) dJx4a65c_remove_915e3_25
end
section
/-! by program out of the bytecode (wip/whole/gen.py): the mirrors, then the walks -/
noncomputable def M_X0_init (h : zH) (a0 : Nat) (x1 : Int32) (x2 : Int32) (x3 : Int32) (x4 : Int32) (x5 : Int32) (x6 : Int32) : Option (zH) := (z_pV h a0 1 0 (.int x1)).bind fun h_1 => (z_pV h_1 a0 1 1 (.int x2)).bind fun h_2 => (z_pV h_2 a0 1 2 (.int x3)).bind fun h_3 => (z_pV h_3 a0 1 3 (.int x4)).bind fun h_4 => (z_pV h_4 a0 1 4 (.int x5)).bind fun h_5 => (z_pV h_5 a0 1 5 (.int x6)).bind fun h_6 => (z_pV h_6 a0 1 6 (.int (1 : Int32))).bind fun h_7 => (z_pV h_7 a0 1 7 (.int (0 : Int32))).bind fun h_8 => (some h_8)
noncomputable def M_X0_covers (h : zH) (a0 : Nat) (x1 : Int32) (x2 : Int32) : Option (Int32) := (z_gI h a0 1 6).bind fun r1 => jn0 ((some (0 : Int32))) fun J2 => (if r1 = 0 then J2 else (z_gI h a0 1 0).bind fun r3 => (if x1 < r3 then J2 else (z_gI h a0 1 0).bind fun r4 => (z_gI h a0 1 2).bind fun r5 => (if (r4 + r5) ≤ x1 then J2 else (z_gI h a0 1 1).bind fun r6 => (if x2 < r6 then J2 else (z_gI h a0 1 1).bind fun r7 => (z_gI h a0 1 3).bind fun r8 => (if (r7 + r8) ≤ x2 then J2 else (some (1 : Int32)))))))
noncomputable def M_X0_dripsAlongRows (h : zH) (a0 : Nat) : Option (Int32) := (z_gI h a0 1 5).bind fun r1 => jn0 ((some (1 : Int32))) fun J2 => (if r1 = 0 then J2 else (z_gI h a0 1 5).bind fun r3 => (if r3 = (2 : Int32) then J2 else (some (0 : Int32))))
noncomputable def M_X0_cellsBeyond (h : zH) (a0 : Nat) : Option (Int32) := (z_ck h a0 1).bind fun _ => (M_X0_dripsAlongRows h a0).bind fun r2 => (if r2 = 0 then (z_gI h a0 1 2).bind fun r3 => (some r3) else (z_gI h a0 1 3).bind fun r4 => (some r4))
noncomputable def M_X0_columnBeyond (h : zH) (a0 : Nat) (x1 : Int32) : Option (Int32) := (z_ck h a0 1).bind fun _ => (M_X0_dripsAlongRows h a0).bind fun r2 => (if r2 = 0 then (z_gI h a0 1 0).bind fun r3 => (some (r3 + x1)) else (z_gI h a0 1 5).bind fun r4 => (if r4 = 0 then (z_gI h a0 1 0).bind fun r7 => (some (r7 - (1 : Int32))) else (z_gI h a0 1 0).bind fun r5 => (z_gI h a0 1 2).bind fun r6 => (some (r5 + r6))))
noncomputable def M_X0_rowBeyond (h : zH) (a0 : Nat) (x1 : Int32) : Option (Int32) := (z_ck h a0 1).bind fun _ => (M_X0_dripsAlongRows h a0).bind fun r2 => (if r2 = 0 then (z_gI h a0 1 5).bind fun r3 => (if r3 = (1 : Int32) then (z_gI h a0 1 1).bind fun r6 => (some (r6 - (1 : Int32))) else (z_gI h a0 1 1).bind fun r4 => (z_gI h a0 1 3).bind fun r5 => (some (r4 + r5))) else (z_gI h a0 1 1).bind fun r8 => (some (r8 + x1)))
noncomputable def M_X4_isCell (x0 : Int32) (x1 : Int32) : Option (Int32) := jn0 ((some (0 : Int32))) fun J1 => (if x0 < 0 then J1 else (if (24 : Int32) ≤ x0 then J1 else (if x1 < 0 then J1 else (if (24 : Int32) ≤ x1 then J1 else (some (1 : Int32))))))
noncomputable def M_X3_init (h : zH) (a0 : Nat) (x1 : Int32) (x2 : Int32) (x3 : Int32) : Option (zH) := (z_pV h a0 4 0 (.int x1)).bind fun h_1 => (z_pV h_1 a0 4 1 (.int x2)).bind fun h_2 => (z_pV h_2 a0 4 2 (.int x3)).bind fun h_3 => (some h_3)
set_option maxHeartbeats 4000000 in
set_option maxRecDepth 100000 in
theorem c_X0_init (l : Launch) (hl : l.stackTraces = false) (G : zG) (lo t0 : Nat) (h : zH) (nx : Nat) (a0 : Nat) (x1 : Int32) (x2 : Int32) (x3 : Int32) (x4 : Int32) (x5 : Int32) (x6 : Int32) (o : zH) (hM : M_X0_init h a0 x1 x2 x3 x4 x5 x6 = some o) : z_Met l yX0_init cX0_init 7 none 1 22 G lo t0 [.ref a0, .int x1, .int x2, .int x3, .int x4, .int x5, .int x6] h nx (.inr (none, o, nx)) 0 0 := by
  refine z_of [(0, .ref a0), (1, .int x1), (2, .int x2), (3, .int x3), (4, .int x4), (5, .int x5), (6, .int x6)] (by decide) (Nat.le_of_ble_eq_true rfl) rfl (fun p e s m below meth c C hin => ?_)
  unfold M_X0_init at hM
  refine z_aload_n (k := 0) (pc := 0) C dX0_init_0 rfl ?_
  refine z_obj (pc := 1) C q_113 q_11 q_12 (Nat.le_of_ble_eq_true rfl) (Nat.le_of_ble_eq_true rfl) dX0_init_1 ?_
  refine z_aload_n (k := 0) (pc := 4) C dX0_init_4 rfl ?_
  refine z_iload_n (k := 1) (pc := 5) C dX0_init_5 rfl ?_
  obtain ⟨h_1, g1, hM⟩ := Option.bind_eq_some_iff.mp hM
  refine z_put (pc := 6) (k := 0) C g1 rfl inlX0 tyX0 tyX0_ok nmX0 (by decide) q_114 (fun _ h9 => h9) rfl (tyX0_ok 0 (by decide)) rfl rfl dX0_init_6 ?_
  refine z_aload_n (k := 0) (pc := 9) C dX0_init_9 rfl ?_
  refine z_iload_n (k := 2) (pc := 10) C dX0_init_10 rfl ?_
  obtain ⟨h_2, g2, hM⟩ := Option.bind_eq_some_iff.mp hM
  refine z_put (pc := 11) (k := 1) C g2 rfl inlX0 tyX0 tyX0_ok nmX0 (by decide) q_115 (fun _ h9 => h9) rfl (tyX0_ok 1 (by decide)) rfl rfl dX0_init_11 ?_
  refine z_aload_n (k := 0) (pc := 14) C dX0_init_14 rfl ?_
  refine z_iload_n (k := 3) (pc := 15) C dX0_init_15 rfl ?_
  obtain ⟨h_3, g3, hM⟩ := Option.bind_eq_some_iff.mp hM
  refine z_putF (pc := 16) (k := 2) C g3 rfl inlX0 tyX0 tyX0_ok nmX0 (by decide) q_116 (fun _ h9 => h9) rfl hin rfl (tyX0_ok 2 (by decide)) rfl rfl dX0_init_16 ?_
  refine z_aload_n (k := 0) (pc := 19) C dX0_init_19 rfl ?_
  refine z_iload (k := 4) (pc := 20) C dX0_init_20 rfl ?_
  obtain ⟨h_4, g4, hM⟩ := Option.bind_eq_some_iff.mp hM
  refine z_putF (pc := 22) (k := 3) C g4 rfl inlX0 tyX0 tyX0_ok nmX0 (by decide) q_117 (fun _ h9 => h9) rfl hin rfl (tyX0_ok 3 (by decide)) rfl rfl dX0_init_22 ?_
  refine z_aload_n (k := 0) (pc := 25) C dX0_init_25 rfl ?_
  refine z_iload (k := 5) (pc := 26) C dX0_init_26 rfl ?_
  obtain ⟨h_5, g5, hM⟩ := Option.bind_eq_some_iff.mp hM
  refine z_putF (pc := 28) (k := 4) C g5 rfl inlX0 tyX0 tyX0_ok nmX0 (by decide) q_118 (fun _ h9 => h9) rfl hin rfl (tyX0_ok 4 (by decide)) rfl rfl dX0_init_28 ?_
  refine z_aload_n (k := 0) (pc := 31) C dX0_init_31 rfl ?_
  refine z_iload (k := 6) (pc := 32) C dX0_init_32 rfl ?_
  obtain ⟨h_6, g6, hM⟩ := Option.bind_eq_some_iff.mp hM
  refine z_putF (pc := 34) (k := 5) C g6 rfl inlX0 tyX0 tyX0_ok nmX0 (by decide) q_119 (fun _ h9 => h9) rfl hin rfl (tyX0_ok 5 (by decide)) rfl rfl dX0_init_34 ?_
  refine z_aload_n (k := 0) (pc := 37) C dX0_init_37 rfl ?_
  refine z_iconst (v := (1 : Int32)) (pc := 38) C dX0_init_38 (by decide) ?_
  obtain ⟨h_7, g7, hM⟩ := Option.bind_eq_some_iff.mp hM
  refine z_put (pc := 39) (k := 6) C g7 rfl inlX0 tyX0 tyX0_ok nmX0 (by decide) q_120 (fun _ h9 => h9) rfl (tyX0_ok 6 (by decide)) rfl rfl dX0_init_39 ?_
  refine z_aload_n (k := 0) (pc := 42) C dX0_init_42 rfl ?_
  refine z_iconst (v := (0 : Int32)) (pc := 43) C dX0_init_43 (by decide) ?_
  obtain ⟨h_8, g8, hM⟩ := Option.bind_eq_some_iff.mp hM
  refine z_put (pc := 44) (k := 7) C g8 rfl inlX0 tyX0 tyX0_ok nmX0 (by decide) q_121 (fun _ h9 => h9) rfl (tyX0_ok 7 (by decide)) rfl rfl dX0_init_44 ?_
  cases hM
  exact z_vret (pc := 47) C rfl (Nat.zero_le _) (Nat.zero_le _) dX0_init_47
set_option maxHeartbeats 4000000 in
set_option maxRecDepth 100000 in
theorem c_X0_covers (l : Launch) (hl : l.stackTraces = false) (G : zG) (lo t0 : Nat) (h : zH) (nx : Nat) (a0 : Nat) (x1 : Int32) (x2 : Int32) (o : Int32) (hM : M_X0_covers h a0 x1 x2 = some o) : z_Met l yX0_covers cX0_covers 3 (some .boolean) 0 0 G lo t0 [.ref a0, .int x1, .int x2] h nx (.inr (some (.int o), h, nx)) 0 0 := by
  refine z_of [(0, .ref a0), (1, .int x1), (2, .int x2)] (by decide) (Nat.le_of_ble_eq_true rfl) rfl (fun p e s m below meth c C hin => ?_)
  unfold M_X0_covers at hM
  refine z_aload_n (k := 0) (pc := 0) C dX0_covers_0 rfl ?_
  obtain ⟨r1, g1, hM⟩ := Option.bind_eq_some_iff.mp hM
  refine z_getI (pc := 1) (k := 6) C g1 rfl inlX0 (by decide) q_120 (fun _ h9 => h9) dX0_covers_1 ?_
  refine zj0 0 0 53 ([]) ([]) (h) (nx) hM (fun  hM => ?_) (fun J2 iJ2 hM => ?_)
  · refine z_iconst (v := (0 : Int32)) (pc := 53) C dX0_covers_53 (by decide) ?_
    cases hM
    exact z_zret (pc := 54) C (Or.inl rfl) rfl (Nat.zero_le _) (Nat.zero_le _) dX0_covers_54
  refine z_if_eq (pc := 4) (tgt := 53) C dX0_covers_4 (by decide) hM (fun hc13 hM => ?_) (fun hc13 hM => ?_)
  · exact z_sub [] rfl (iJ2 hM)
  · refine z_iload_n (k := 1) (pc := 7) C dX0_covers_7 rfl ?_
    refine z_aload_n (k := 0) (pc := 8) C dX0_covers_8 rfl ?_
    obtain ⟨r3, g3, hM⟩ := Option.bind_eq_some_iff.mp hM
    refine z_getI (pc := 9) (k := 0) C g3 rfl inlX0 (by decide) q_114 (fun _ h9 => h9) dX0_covers_9 ?_
    refine z_icmp_lt (pc := 12) (tgt := 53) C dX0_covers_12 (by decide) hM (fun hc12 hM => ?_) (fun hc12 hM => ?_)
    · exact z_sub [] rfl (iJ2 hM)
    · refine z_iload_n (k := 1) (pc := 15) C dX0_covers_15 rfl ?_
      refine z_aload_n (k := 0) (pc := 16) C dX0_covers_16 rfl ?_
      obtain ⟨r4, g4, hM⟩ := Option.bind_eq_some_iff.mp hM
      refine z_getI (pc := 17) (k := 0) C g4 rfl inlX0 (by decide) q_114 (fun _ h9 => h9) dX0_covers_17 ?_
      refine z_aload_n (k := 0) (pc := 20) C dX0_covers_20 rfl ?_
      obtain ⟨r5, g5, hM⟩ := Option.bind_eq_some_iff.mp hM
      refine z_getI (pc := 21) (k := 2) C g5 rfl inlX0 (by decide) q_116 (fun _ h9 => h9) dX0_covers_21 ?_
      refine z_iadd (pc := 24) C dX0_covers_24 ?_
      refine z_icmp_ge (pc := 25) (tgt := 53) C dX0_covers_25 (by decide) hM (fun hc11 hM => ?_) (fun hc11 hM => ?_)
      · exact z_sub [] rfl (iJ2 hM)
      · refine z_iload_n (k := 2) (pc := 28) C dX0_covers_28 rfl ?_
        refine z_aload_n (k := 0) (pc := 29) C dX0_covers_29 rfl ?_
        obtain ⟨r6, g6, hM⟩ := Option.bind_eq_some_iff.mp hM
        refine z_getI (pc := 30) (k := 1) C g6 rfl inlX0 (by decide) q_115 (fun _ h9 => h9) dX0_covers_30 ?_
        refine z_icmp_lt (pc := 33) (tgt := 53) C dX0_covers_33 (by decide) hM (fun hc10 hM => ?_) (fun hc10 hM => ?_)
        · exact z_sub [] rfl (iJ2 hM)
        · refine z_iload_n (k := 2) (pc := 36) C dX0_covers_36 rfl ?_
          refine z_aload_n (k := 0) (pc := 37) C dX0_covers_37 rfl ?_
          obtain ⟨r7, g7, hM⟩ := Option.bind_eq_some_iff.mp hM
          refine z_getI (pc := 38) (k := 1) C g7 rfl inlX0 (by decide) q_115 (fun _ h9 => h9) dX0_covers_38 ?_
          refine z_aload_n (k := 0) (pc := 41) C dX0_covers_41 rfl ?_
          obtain ⟨r8, g8, hM⟩ := Option.bind_eq_some_iff.mp hM
          refine z_getI (pc := 42) (k := 3) C g8 rfl inlX0 (by decide) q_117 (fun _ h9 => h9) dX0_covers_42 ?_
          refine z_iadd (pc := 45) C dX0_covers_45 ?_
          refine z_icmp_ge (pc := 46) (tgt := 53) C dX0_covers_46 (by decide) hM (fun hc9 hM => ?_) (fun hc9 hM => ?_)
          · exact z_sub [] rfl (iJ2 hM)
          · refine z_iconst (v := (1 : Int32)) (pc := 49) C dX0_covers_49 (by decide) ?_
            refine z_goto (pc := 50) (tgt := 54) C dX0_covers_50 (by decide) ?_
            cases hM
            exact z_zret (pc := 54) C (Or.inr rfl) rfl (Nat.zero_le _) (Nat.zero_le _) dX0_covers_54
set_option maxHeartbeats 4000000 in
set_option maxRecDepth 100000 in
theorem c_X0_dripsAlongRows (l : Launch) (hl : l.stackTraces = false) (G : zG) (lo t0 : Nat) (h : zH) (nx : Nat) (a0 : Nat) (o : Int32) (hM : M_X0_dripsAlongRows h a0 = some o) : z_Met l yX0_dripsAlongRows cX0_dripsAlongRows 1 (some .boolean) 0 0 G lo t0 [.ref a0] h nx (.inr (some (.int o), h, nx)) 0 0 := by
  refine z_of [(0, .ref a0)] (by decide) (Nat.le_of_ble_eq_true rfl) rfl (fun p e s m below meth c C hin => ?_)
  unfold M_X0_dripsAlongRows at hM
  refine z_aload_n (k := 0) (pc := 0) C dX0_dripsAlongRows_0 rfl ?_
  obtain ⟨r1, g1, hM⟩ := Option.bind_eq_some_iff.mp hM
  refine z_getI (pc := 1) (k := 5) C g1 rfl inlX0 (by decide) q_119 (fun _ h9 => h9) dX0_dripsAlongRows_1 ?_
  refine zj0 0 0 15 ([]) ([]) (h) (nx) hM (fun  hM => ?_) (fun J2 iJ2 hM => ?_)
  · refine z_iconst (v := (1 : Int32)) (pc := 15) C dX0_dripsAlongRows_15 (by decide) ?_
    refine z_goto (pc := 16) (tgt := 20) C dX0_dripsAlongRows_16 (by decide) ?_
    cases hM
    exact z_zret (pc := 20) C (Or.inr rfl) rfl (Nat.zero_le _) (Nat.zero_le _) dX0_dripsAlongRows_20
  refine z_if_eq (pc := 4) (tgt := 15) C dX0_dripsAlongRows_4 (by decide) hM (fun hc5 hM => ?_) (fun hc5 hM => ?_)
  · exact z_sub [] rfl (iJ2 hM)
  · refine z_aload_n (k := 0) (pc := 7) C dX0_dripsAlongRows_7 rfl ?_
    obtain ⟨r3, g3, hM⟩ := Option.bind_eq_some_iff.mp hM
    refine z_getI (pc := 8) (k := 5) C g3 rfl inlX0 (by decide) q_119 (fun _ h9 => h9) dX0_dripsAlongRows_8 ?_
    refine z_iconst (v := (2 : Int32)) (pc := 11) C dX0_dripsAlongRows_11 (by decide) ?_
    refine z_icmp_ne (pc := 12) (tgt := 19) C dX0_dripsAlongRows_12 (by decide) hM (fun hc4 hM => ?_) (fun hc4 hM => ?_)
    · exact z_sub [] rfl (iJ2 hM)
    · refine z_iconst (v := (0 : Int32)) (pc := 19) C dX0_dripsAlongRows_19 (by decide) ?_
      cases hM
      exact z_zret (pc := 20) C (Or.inl rfl) rfl (Nat.zero_le _) (Nat.zero_le _) dX0_dripsAlongRows_20
set_option maxHeartbeats 4000000 in
set_option maxRecDepth 100000 in
theorem c_X0_cellsBeyond (l : Launch) (hl : l.stackTraces = false) (G : zG) (lo t0 : Nat) (h : zH) (nx : Nat) (a0 : Nat) (o : Int32) (hM : M_X0_cellsBeyond h a0 = some o) : z_Met l yX0_cellsBeyond cX0_cellsBeyond 1 (some .int) 1 20 G lo t0 [.ref a0] h nx (.inr (some (.int o), h, nx)) 0 0 := by
  refine z_of [(0, .ref a0)] (by decide) (Nat.le_of_ble_eq_true rfl) rfl (fun p e s m below meth c C hin => ?_)
  unfold M_X0_cellsBeyond at hM
  refine z_aload_n (k := 0) (pc := 0) C dX0_cellsBeyond_0 rfl ?_
  obtain ⟨_, g1, hM⟩ := Option.bind_eq_some_iff.mp hM
  obtain ⟨r2, g2, hM⟩ := Option.bind_eq_some_iff.mp hM
  refine z_goN (kc := 0) (ks := 0) ([.int r2]) (z_callV (pc := 1) (As := []) (rest := []) (n := 0) (ci := 1) C (c_X0_dripsAlongRows l hl G lo t0 h nx a0 r2 g2) g1 rfl q_468 q_469 q_470 q_92 q_471 ⟨rfl, by decide +kernel, by decide +kernel, by decide +kernel⟩ ⟨Nat.le_of_ble_eq_true rfl, Nat.le_of_ble_eq_true rfl⟩ rfl (Nat.le_of_ble_eq_true rfl) dX0_cellsBeyond_1 ⟨(Nat.zero_le _), (Nat.zero_le _)⟩) rfl (Nat.le_of_ble_eq_true rfl) (Nat.le_of_ble_eq_true rfl) ?_
  refine z_if_eq (pc := 4) (tgt := 14) C dX0_cellsBeyond_4 (by decide) hM (fun hc5 hM => ?_) (fun hc5 hM => ?_)
  · refine z_aload_n (k := 0) (pc := 14) C dX0_cellsBeyond_14 rfl ?_
    obtain ⟨r3, g3, hM⟩ := Option.bind_eq_some_iff.mp hM
    refine z_getI (pc := 15) (k := 2) C g3 rfl inlX0 (by decide) q_116 (fun _ h9 => h9) dX0_cellsBeyond_15 ?_
    cases hM
    exact z_iret (pc := 18) C rfl (Nat.zero_le _) (Nat.zero_le _) dX0_cellsBeyond_18
  · refine z_aload_n (k := 0) (pc := 7) C dX0_cellsBeyond_7 rfl ?_
    obtain ⟨r4, g4, hM⟩ := Option.bind_eq_some_iff.mp hM
    refine z_getI (pc := 8) (k := 3) C g4 rfl inlX0 (by decide) q_117 (fun _ h9 => h9) dX0_cellsBeyond_8 ?_
    refine z_goto (pc := 11) (tgt := 18) C dX0_cellsBeyond_11 (by decide) ?_
    cases hM
    exact z_iret (pc := 18) C rfl (Nat.zero_le _) (Nat.zero_le _) dX0_cellsBeyond_18
set_option maxHeartbeats 4000000 in
set_option maxRecDepth 100000 in
theorem c_X0_columnBeyond (l : Launch) (hl : l.stackTraces = false) (G : zG) (lo t0 : Nat) (h : zH) (nx : Nat) (a0 : Nat) (x1 : Int32) (o : Int32) (hM : M_X0_columnBeyond h a0 x1 = some o) : z_Met l yX0_columnBeyond cX0_columnBeyond 2 (some .int) 1 20 G lo t0 [.ref a0, .int x1] h nx (.inr (some (.int o), h, nx)) 0 0 := by
  refine z_of [(0, .ref a0), (1, .int x1)] (by decide) (Nat.le_of_ble_eq_true rfl) rfl (fun p e s m below meth c C hin => ?_)
  unfold M_X0_columnBeyond at hM
  refine z_aload_n (k := 0) (pc := 0) C dX0_columnBeyond_0 rfl ?_
  obtain ⟨_, g1, hM⟩ := Option.bind_eq_some_iff.mp hM
  obtain ⟨r2, g2, hM⟩ := Option.bind_eq_some_iff.mp hM
  refine z_goN (kc := 0) (ks := 0) ([.int r2]) (z_callV (pc := 1) (As := []) (rest := []) (n := 0) (ci := 1) C (c_X0_dripsAlongRows l hl G lo t0 h nx a0 r2 g2) g1 rfl q_468 q_469 q_470 q_92 q_471 ⟨rfl, by decide +kernel, by decide +kernel, by decide +kernel⟩ ⟨Nat.le_of_ble_eq_true rfl, Nat.le_of_ble_eq_true rfl⟩ rfl (Nat.le_of_ble_eq_true rfl) dX0_columnBeyond_1 ⟨(Nat.zero_le _), (Nat.zero_le _)⟩) rfl (Nat.le_of_ble_eq_true rfl) (Nat.le_of_ble_eq_true rfl) ?_
  refine z_if_eq (pc := 4) (tgt := 33) C dX0_columnBeyond_4 (by decide) hM (fun hc9 hM => ?_) (fun hc9 hM => ?_)
  · refine z_aload_n (k := 0) (pc := 33) C dX0_columnBeyond_33 rfl ?_
    obtain ⟨r3, g3, hM⟩ := Option.bind_eq_some_iff.mp hM
    refine z_getI (pc := 34) (k := 0) C g3 rfl inlX0 (by decide) q_114 (fun _ h9 => h9) dX0_columnBeyond_34 ?_
    refine z_iload_n (k := 1) (pc := 37) C dX0_columnBeyond_37 rfl ?_
    refine z_iadd (pc := 38) C dX0_columnBeyond_38 ?_
    cases hM
    exact z_iret (pc := 39) C rfl (Nat.zero_le _) (Nat.zero_le _) dX0_columnBeyond_39
  · refine z_aload_n (k := 0) (pc := 7) C dX0_columnBeyond_7 rfl ?_
    obtain ⟨r4, g4, hM⟩ := Option.bind_eq_some_iff.mp hM
    refine z_getI (pc := 8) (k := 5) C g4 rfl inlX0 (by decide) q_119 (fun _ h9 => h9) dX0_columnBeyond_8 ?_
    refine z_if_ne (pc := 11) (tgt := 23) C dX0_columnBeyond_11 (by decide) hM (fun hc8 hM => ?_) (fun hc8 hM => ?_)
    · refine z_aload_n (k := 0) (pc := 14) C dX0_columnBeyond_14 rfl ?_
      obtain ⟨r7, g7, hM⟩ := Option.bind_eq_some_iff.mp hM
      refine z_getI (pc := 15) (k := 0) C g7 rfl inlX0 (by decide) q_114 (fun _ h9 => h9) dX0_columnBeyond_15 ?_
      refine z_iconst (v := (1 : Int32)) (pc := 18) C dX0_columnBeyond_18 (by decide) ?_
      refine z_isub (pc := 19) C dX0_columnBeyond_19 ?_
      refine z_goto (pc := 20) (tgt := 32) C dX0_columnBeyond_20 (by decide) ?_
      cases hM
      exact z_iret (pc := 32) C rfl (Nat.zero_le _) (Nat.zero_le _) dX0_columnBeyond_32
    · refine z_aload_n (k := 0) (pc := 23) C dX0_columnBeyond_23 rfl ?_
      obtain ⟨r5, g5, hM⟩ := Option.bind_eq_some_iff.mp hM
      refine z_getI (pc := 24) (k := 0) C g5 rfl inlX0 (by decide) q_114 (fun _ h9 => h9) dX0_columnBeyond_24 ?_
      refine z_aload_n (k := 0) (pc := 27) C dX0_columnBeyond_27 rfl ?_
      obtain ⟨r6, g6, hM⟩ := Option.bind_eq_some_iff.mp hM
      refine z_getI (pc := 28) (k := 2) C g6 rfl inlX0 (by decide) q_116 (fun _ h9 => h9) dX0_columnBeyond_28 ?_
      refine z_iadd (pc := 31) C dX0_columnBeyond_31 ?_
      cases hM
      exact z_iret (pc := 32) C rfl (Nat.zero_le _) (Nat.zero_le _) dX0_columnBeyond_32
set_option maxHeartbeats 4000000 in
set_option maxRecDepth 100000 in
theorem c_X0_rowBeyond (l : Launch) (hl : l.stackTraces = false) (G : zG) (lo t0 : Nat) (h : zH) (nx : Nat) (a0 : Nat) (x1 : Int32) (o : Int32) (hM : M_X0_rowBeyond h a0 x1 = some o) : z_Met l yX0_rowBeyond cX0_rowBeyond 2 (some .int) 1 20 G lo t0 [.ref a0, .int x1] h nx (.inr (some (.int o), h, nx)) 0 0 := by
  refine z_of [(0, .ref a0), (1, .int x1)] (by decide) (Nat.le_of_ble_eq_true rfl) rfl (fun p e s m below meth c C hin => ?_)
  unfold M_X0_rowBeyond at hM
  refine z_aload_n (k := 0) (pc := 0) C dX0_rowBeyond_0 rfl ?_
  obtain ⟨_, g1, hM⟩ := Option.bind_eq_some_iff.mp hM
  obtain ⟨r2, g2, hM⟩ := Option.bind_eq_some_iff.mp hM
  refine z_goN (kc := 0) (ks := 0) ([.int r2]) (z_callV (pc := 1) (As := []) (rest := []) (n := 0) (ci := 1) C (c_X0_dripsAlongRows l hl G lo t0 h nx a0 r2 g2) g1 rfl q_468 q_469 q_470 q_92 q_471 ⟨rfl, by decide +kernel, by decide +kernel, by decide +kernel⟩ ⟨Nat.le_of_ble_eq_true rfl, Nat.le_of_ble_eq_true rfl⟩ rfl (Nat.le_of_ble_eq_true rfl) dX0_rowBeyond_1 ⟨(Nat.zero_le _), (Nat.zero_le _)⟩) rfl (Nat.le_of_ble_eq_true rfl) (Nat.le_of_ble_eq_true rfl) ?_
  refine z_if_eq (pc := 4) (tgt := 14) C dX0_rowBeyond_4 (by decide) hM (fun hc9 hM => ?_) (fun hc9 hM => ?_)
  · refine z_aload_n (k := 0) (pc := 14) C dX0_rowBeyond_14 rfl ?_
    obtain ⟨r3, g3, hM⟩ := Option.bind_eq_some_iff.mp hM
    refine z_getI (pc := 15) (k := 5) C g3 rfl inlX0 (by decide) q_119 (fun _ h9 => h9) dX0_rowBeyond_15 ?_
    refine z_iconst (v := (1 : Int32)) (pc := 18) C dX0_rowBeyond_18 (by decide) ?_
    refine z_icmp_ne (pc := 19) (tgt := 31) C dX0_rowBeyond_19 (by decide) hM (fun hc7 hM => ?_) (fun hc7 hM => ?_)
    · refine z_aload_n (k := 0) (pc := 22) C dX0_rowBeyond_22 rfl ?_
      obtain ⟨r6, g6, hM⟩ := Option.bind_eq_some_iff.mp hM
      refine z_getI (pc := 23) (k := 1) C g6 rfl inlX0 (by decide) q_115 (fun _ h9 => h9) dX0_rowBeyond_23 ?_
      refine z_iconst (v := (1 : Int32)) (pc := 26) C dX0_rowBeyond_26 (by decide) ?_
      refine z_isub (pc := 27) C dX0_rowBeyond_27 ?_
      refine z_goto (pc := 28) (tgt := 40) C dX0_rowBeyond_28 (by decide) ?_
      cases hM
      exact z_iret (pc := 40) C rfl (Nat.zero_le _) (Nat.zero_le _) dX0_rowBeyond_40
    · refine z_aload_n (k := 0) (pc := 31) C dX0_rowBeyond_31 rfl ?_
      obtain ⟨r4, g4, hM⟩ := Option.bind_eq_some_iff.mp hM
      refine z_getI (pc := 32) (k := 1) C g4 rfl inlX0 (by decide) q_115 (fun _ h9 => h9) dX0_rowBeyond_32 ?_
      refine z_aload_n (k := 0) (pc := 35) C dX0_rowBeyond_35 rfl ?_
      obtain ⟨r5, g5, hM⟩ := Option.bind_eq_some_iff.mp hM
      refine z_getI (pc := 36) (k := 3) C g5 rfl inlX0 (by decide) q_117 (fun _ h9 => h9) dX0_rowBeyond_36 ?_
      refine z_iadd (pc := 39) C dX0_rowBeyond_39 ?_
      cases hM
      exact z_iret (pc := 40) C rfl (Nat.zero_le _) (Nat.zero_le _) dX0_rowBeyond_40
  · refine z_aload_n (k := 0) (pc := 7) C dX0_rowBeyond_7 rfl ?_
    obtain ⟨r8, g8, hM⟩ := Option.bind_eq_some_iff.mp hM
    refine z_getI (pc := 8) (k := 1) C g8 rfl inlX0 (by decide) q_115 (fun _ h9 => h9) dX0_rowBeyond_8 ?_
    refine z_iload_n (k := 1) (pc := 11) C dX0_rowBeyond_11 rfl ?_
    refine z_iadd (pc := 12) C dX0_rowBeyond_12 ?_
    cases hM
    exact z_iret (pc := 13) C rfl (Nat.zero_le _) (Nat.zero_le _) dX0_rowBeyond_13
set_option maxHeartbeats 4000000 in
set_option maxRecDepth 100000 in
theorem c_X4_isCell (l : Launch) (hl : l.stackTraces = false) (G : zG) (lo t0 : Nat) (h : zH) (nx : Nat) (x0 : Int32) (x1 : Int32) (o : Int32) (hM : M_X4_isCell x0 x1 = some o) : z_Met l yX4_isCell cX4_isCell 2 (some .boolean) 0 0 G lo t0 [.int x0, .int x1] h nx (.inr (some (.int o), h, nx)) 0 0 := by
  refine z_of [(0, .int x0), (1, .int x1)] (by decide) (Nat.le_of_ble_eq_true rfl) rfl (fun p e s m below meth c C hin => ?_)
  unfold M_X4_isCell at hM
  refine z_iload_n (k := 0) (pc := 0) C dX4_isCell_0 rfl ?_
  refine zj0 0 0 24 ([]) ([]) (h) (nx) hM (fun  hM => ?_) (fun J1 iJ1 hM => ?_)
  · refine z_iconst (v := (0 : Int32)) (pc := 24) C dX4_isCell_24 (by decide) ?_
    cases hM
    exact z_zret (pc := 25) C (Or.inl rfl) rfl (Nat.zero_le _) (Nat.zero_le _) dX4_isCell_25
  refine z_if_lt (pc := 1) (tgt := 24) C dX4_isCell_1 (by decide) hM (fun hc5 hM => ?_) (fun hc5 hM => ?_)
  · exact z_sub [] rfl (iJ1 hM)
  · refine z_iload_n (k := 0) (pc := 4) C dX4_isCell_4 rfl ?_
    refine z_bipush (v := (24 : Int32)) (pc := 5) C dX4_isCell_5 (by decide) ?_
    refine z_icmp_ge (pc := 7) (tgt := 24) C dX4_isCell_7 (by decide) hM (fun hc4 hM => ?_) (fun hc4 hM => ?_)
    · exact z_sub [] rfl (iJ1 hM)
    · refine z_iload_n (k := 1) (pc := 10) C dX4_isCell_10 rfl ?_
      refine z_if_lt (pc := 11) (tgt := 24) C dX4_isCell_11 (by decide) hM (fun hc3 hM => ?_) (fun hc3 hM => ?_)
      · exact z_sub [] rfl (iJ1 hM)
      · refine z_iload_n (k := 1) (pc := 14) C dX4_isCell_14 rfl ?_
        refine z_bipush (v := (24 : Int32)) (pc := 15) C dX4_isCell_15 (by decide) ?_
        refine z_icmp_ge (pc := 17) (tgt := 24) C dX4_isCell_17 (by decide) hM (fun hc2 hM => ?_) (fun hc2 hM => ?_)
        · exact z_sub [] rfl (iJ1 hM)
        · refine z_iconst (v := (1 : Int32)) (pc := 20) C dX4_isCell_20 (by decide) ?_
          refine z_goto (pc := 21) (tgt := 25) C dX4_isCell_21 (by decide) ?_
          cases hM
          exact z_zret (pc := 25) C (Or.inr rfl) rfl (Nat.zero_le _) (Nat.zero_le _) dX4_isCell_25
set_option maxHeartbeats 4000000 in
set_option maxRecDepth 100000 in
theorem c_X3_init (l : Launch) (hl : l.stackTraces = false) (G : zG) (lo t0 : Nat) (h : zH) (nx : Nat) (a0 : Nat) (x1 : Int32) (x2 : Int32) (x3 : Int32) (o : zH) (hM : M_X3_init h a0 x1 x2 x3 = some o) : z_Met l yX3_init cX3_init 4 none 1 22 G lo t0 [.ref a0, .int x1, .int x2, .int x3] h nx (.inr (none, o, nx)) 0 0 := by
  refine z_of [(0, .ref a0), (1, .int x1), (2, .int x2), (3, .int x3)] (by decide) (Nat.le_of_ble_eq_true rfl) rfl (fun p e s m below meth c C hin => ?_)
  unfold M_X3_init at hM
  refine z_aload_n (k := 0) (pc := 0) C dX3_init_0 rfl ?_
  refine z_obj (pc := 1) C q_401 q_11 q_12 (Nat.le_of_ble_eq_true rfl) (Nat.le_of_ble_eq_true rfl) dX3_init_1 ?_
  refine z_aload_n (k := 0) (pc := 4) C dX3_init_4 rfl ?_
  refine z_iload_n (k := 1) (pc := 5) C dX3_init_5 rfl ?_
  obtain ⟨h_1, g1, hM⟩ := Option.bind_eq_some_iff.mp hM
  refine z_putF (pc := 6) (k := 0) C g1 rfl inlX3 tyX3 tyX3_ok nmX3 (by decide) q_402 (fun _ h9 => h9) rfl hin rfl (tyX3_ok 0 (by decide)) rfl rfl dX3_init_6 ?_
  refine z_aload_n (k := 0) (pc := 9) C dX3_init_9 rfl ?_
  refine z_iload_n (k := 2) (pc := 10) C dX3_init_10 rfl ?_
  obtain ⟨h_2, g2, hM⟩ := Option.bind_eq_some_iff.mp hM
  refine z_putF (pc := 11) (k := 1) C g2 rfl inlX3 tyX3 tyX3_ok nmX3 (by decide) q_403 (fun _ h9 => h9) rfl hin rfl (tyX3_ok 1 (by decide)) rfl rfl dX3_init_11 ?_
  refine z_aload_n (k := 0) (pc := 14) C dX3_init_14 rfl ?_
  refine z_iload_n (k := 3) (pc := 15) C dX3_init_15 rfl ?_
  obtain ⟨h_3, g3, hM⟩ := Option.bind_eq_some_iff.mp hM
  refine z_putF (pc := 16) (k := 2) C g3 rfl inlX3 tyX3 tyX3_ok nmX3 (by decide) q_404 (fun _ h9 => h9) rfl hin rfl (tyX3_ok 2 (by decide)) rfl rfl dX3_init_16 ?_
  cases hM
  exact z_vret (pc := 19) C rfl (Nat.zero_le _) (Nat.zero_le _) dX3_init_19
end

section
-- ===== PART A: goes FIRST, ahead of the names: the tables' words, and 'selects' of the private methods out of them =====
/-- a private method of a class that the tables say can be made, by its rows of tables_1 -/
def lw_okq (q : MethodName × Nat) : Prop := (q.1.cls ≠ "java/lang/invoke/MethodHandle" ∧ q.1.cls ≠ "java/lang/invoke/VarHandle") ∧ Cond.instantiable q.1.cls q.2 ∈ tables_1 ∧ Cond.privateMethod q.1 ∈ tables_1 ∧ Cond.instanceMethod q.1 ∈ tables_1
theorem lw_p0 : lw_okq (⟨"TinDucks", "settle", "()V"⟩, 16) := ⟨⟨by decide +kernel, by decide +kernel⟩, List.mem_of_getElem? (i := 21) (by decide +kernel), List.mem_of_getElem? (i := 367) (by decide +kernel), List.mem_of_getElem? (i := 368) (by decide +kernel)⟩
theorem lw_p1 : lw_okq (⟨"TinDucks$Text", "firstFault", "()I"⟩, 8) := ⟨⟨by decide +kernel, by decide +kernel⟩, List.mem_of_getElem? (i := 234) (by decide +kernel), List.mem_of_getElem? (i := 375) (by decide +kernel), List.mem_of_getElem? (i := 376) (by decide +kernel)⟩
theorem lw_p2 : lw_okq (⟨"TinDucks$Text", "goesOn", "(I)Z"⟩, 8) := ⟨⟨by decide +kernel, by decide +kernel⟩, List.mem_of_getElem? (i := 234) (by decide +kernel), List.mem_of_getElem? (i := 379) (by decide +kernel), List.mem_of_getElem? (i := 380) (by decide +kernel)⟩
theorem lw_p3 : lw_okq (⟨"TinDucks$Text", "signs", "(I)Ljava/lang/String;"⟩, 8) := ⟨⟨by decide +kernel, by decide +kernel⟩, List.mem_of_getElem? (i := 234) (by decide +kernel), List.mem_of_getElem? (i := 383) (by decide +kernel), List.mem_of_getElem? (i := 384) (by decide +kernel)⟩
theorem lw_p4 : lw_okq (⟨"TinDucks$Text", "isTaken", "(I)Z"⟩, 8) := ⟨⟨by decide +kernel, by decide +kernel⟩, List.mem_of_getElem? (i := 234) (by decide +kernel), List.mem_of_getElem? (i := 481) (by decide +kernel), List.mem_of_getElem? (i := 482) (by decide +kernel)⟩
theorem lw_p5 : lw_okq (⟨"TinDucks$Stand", "noteHidden", "(I)V"⟩, 8) := ⟨⟨by decide +kernel, by decide +kernel⟩, List.mem_of_getElem? (i := 31) (by decide +kernel), List.mem_of_getElem? (i := 500) (by decide +kernel), List.mem_of_getElem? (i := 501) (by decide +kernel)⟩
theorem lw_p6 : lw_okq (⟨"TinDucks$Course", "goOn", "(II)I"⟩, 5) := ⟨⟨by decide +kernel, by decide +kernel⟩, List.mem_of_getElem? (i := 96) (by decide +kernel), List.mem_of_getElem? (i := 519) (by decide +kernel), List.mem_of_getElem? (i := 520) (by decide +kernel)⟩
theorem lw_p7 : lw_okq (⟨"TinDucks$Round", "begin", "()V"⟩, 17) := ⟨⟨by decide +kernel, by decide +kernel⟩, List.mem_of_getElem? (i := 120) (by decide +kernel), List.mem_of_getElem? (i := 539) (by decide +kernel), List.mem_of_getElem? (i := 540) (by decide +kernel)⟩
theorem lw_p8 : lw_okq (⟨"TinDucks$Round", "shoot", "(II)V"⟩, 17) := ⟨⟨by decide +kernel, by decide +kernel⟩, List.mem_of_getElem? (i := 120) (by decide +kernel), List.mem_of_getElem? (i := 548) (by decide +kernel), List.mem_of_getElem? (i := 549) (by decide +kernel)⟩
theorem lw_p9 : lw_okq (⟨"TinDucks$Round", "strike", "(II)V"⟩, 17) := ⟨⟨by decide +kernel, by decide +kernel⟩, List.mem_of_getElem? (i := 120) (by decide +kernel), List.mem_of_getElem? (i := 558) (by decide +kernel), List.mem_of_getElem? (i := 559) (by decide +kernel)⟩
theorem lw_p10 : lw_okq (⟨"TinDucks", "isDuck", "(I)Z"⟩, 16) := ⟨⟨by decide +kernel, by decide +kernel⟩, List.mem_of_getElem? (i := 21) (by decide +kernel), List.mem_of_getElem? (i := 572) (by decide +kernel), List.mem_of_getElem? (i := 573) (by decide +kernel)⟩
theorem lw_p11 : lw_okq (⟨"TinDucks", "isShot", "(I)Z"⟩, 16) := ⟨⟨by decide +kernel, by decide +kernel⟩, List.mem_of_getElem? (i := 21) (by decide +kernel), List.mem_of_getElem? (i := 584) (by decide +kernel), List.mem_of_getElem? (i := 585) (by decide +kernel)⟩
theorem lw_p12 : lw_okq (⟨"TinDucks", "refuseSheet", "(I)I"⟩, 16) := ⟨⟨by decide +kernel, by decide +kernel⟩, List.mem_of_getElem? (i := 21) (by decide +kernel), List.mem_of_getElem? (i := 623) (by decide +kernel), List.mem_of_getElem? (i := 624) (by decide +kernel)⟩
theorem lw_p13 : lw_okq (⟨"TinDucks", "finding", "(I)I"⟩, 16) := ⟨⟨by decide +kernel, by decide +kernel⟩, List.mem_of_getElem? (i := 21) (by decide +kernel), List.mem_of_getElem? (i := 627) (by decide +kernel), List.mem_of_getElem? (i := 628) (by decide +kernel)⟩
theorem lw_p14 : lw_okq (⟨"TinDucks", "seekRun", "()V"⟩, 16) := ⟨⟨by decide +kernel, by decide +kernel⟩, List.mem_of_getElem? (i := 21) (by decide +kernel), List.mem_of_getElem? (i := 689) (by decide +kernel), List.mem_of_getElem? (i := 690) (by decide +kernel)⟩
theorem lw_p15 : lw_okq (⟨"TinDucks", "offer", "(II)V"⟩, 16) := ⟨⟨by decide +kernel, by decide +kernel⟩, List.mem_of_getElem? (i := 21) (by decide +kernel), List.mem_of_getElem? (i := 694) (by decide +kernel), List.mem_of_getElem? (i := 695) (by decide +kernel)⟩
def lw_privs_1 : List (MethodName × Nat) := [(⟨"TinDucks", "settle", "()V"⟩, 16), (⟨"TinDucks$Text", "firstFault", "()I"⟩, 8), (⟨"TinDucks$Text", "goesOn", "(I)Z"⟩, 8), (⟨"TinDucks$Text", "signs", "(I)Ljava/lang/String;"⟩, 8), (⟨"TinDucks$Text", "isTaken", "(I)Z"⟩, 8), (⟨"TinDucks$Stand", "noteHidden", "(I)V"⟩, 8), (⟨"TinDucks$Course", "goOn", "(II)I"⟩, 5), (⟨"TinDucks$Round", "begin", "()V"⟩, 17), (⟨"TinDucks$Round", "shoot", "(II)V"⟩, 17), (⟨"TinDucks$Round", "strike", "(II)V"⟩, 17), (⟨"TinDucks", "isDuck", "(I)Z"⟩, 16), (⟨"TinDucks", "isShot", "(I)Z"⟩, 16), (⟨"TinDucks", "refuseSheet", "(I)I"⟩, 16), (⟨"TinDucks", "finding", "(I)I"⟩, 16), (⟨"TinDucks", "seekRun", "()V"⟩, 16), (⟨"TinDucks", "offer", "(II)V"⟩, 16)]
theorem lw_r1 : ∀ q ∈ lw_privs_1, lw_okq q := List.forall_mem_cons.mpr ⟨lw_p0, List.forall_mem_cons.mpr ⟨lw_p1, List.forall_mem_cons.mpr ⟨lw_p2, List.forall_mem_cons.mpr ⟨lw_p3, List.forall_mem_cons.mpr ⟨lw_p4, List.forall_mem_cons.mpr ⟨lw_p5, List.forall_mem_cons.mpr ⟨lw_p6, List.forall_mem_cons.mpr ⟨lw_p7, List.forall_mem_cons.mpr ⟨lw_p8, List.forall_mem_cons.mpr ⟨lw_p9, List.forall_mem_cons.mpr ⟨lw_p10, List.forall_mem_cons.mpr ⟨lw_p11, List.forall_mem_cons.mpr ⟨lw_p12, List.forall_mem_cons.mpr ⟨lw_p13, List.forall_mem_cons.mpr ⟨lw_p14, List.forall_mem_cons.mpr ⟨lw_p15, fun _ h => absurd h List.not_mem_nil⟩⟩⟩⟩⟩⟩⟩⟩⟩⟩⟩⟩⟩⟩⟩⟩
theorem lw_p16 : lw_okq (⟨"TinDucks", "easiestDuck", "()I"⟩, 16) := ⟨⟨by decide +kernel, by decide +kernel⟩, List.mem_of_getElem? (i := 21) (by decide +kernel), List.mem_of_getElem? (i := 702) (by decide +kernel), List.mem_of_getElem? (i := 703) (by decide +kernel)⟩
theorem lw_p17 : lw_okq (⟨"TinDucks", "safeDucks", "()I"⟩, 16) := ⟨⟨by decide +kernel, by decide +kernel⟩, List.mem_of_getElem? (i := 21) (by decide +kernel), List.mem_of_getElem? (i := 711) (by decide +kernel), List.mem_of_getElem? (i := 712) (by decide +kernel)⟩
theorem lw_p18 : lw_okq (⟨"TinDucks", "seekAim", "(I)V"⟩, 16) := ⟨⟨by decide +kernel, by decide +kernel⟩, List.mem_of_getElem? (i := 21) (by decide +kernel), List.mem_of_getElem? (i := 719) (by decide +kernel), List.mem_of_getElem? (i := 720) (by decide +kernel)⟩
theorem lw_p19 : lw_okq (⟨"TinDucks", "seekFire", "(I)V"⟩, 16) := ⟨⟨by decide +kernel, by decide +kernel⟩, List.mem_of_getElem? (i := 21) (by decide +kernel), List.mem_of_getElem? (i := 737) (by decide +kernel), List.mem_of_getElem? (i := 738) (by decide +kernel)⟩
theorem lw_p20 : lw_okq (⟨"TinDucks", "seekMend", "()V"⟩, 16) := ⟨⟨by decide +kernel, by decide +kernel⟩, List.mem_of_getElem? (i := 21) (by decide +kernel), List.mem_of_getElem? (i := 745) (by decide +kernel), List.mem_of_getElem? (i := 746) (by decide +kernel)⟩
theorem lw_p21 : lw_okq (⟨"TinDucks", "eventsToSpare", "()I"⟩, 16) := ⟨⟨by decide +kernel, by decide +kernel⟩, List.mem_of_getElem? (i := 21) (by decide +kernel), List.mem_of_getElem? (i := 753) (by decide +kernel), List.mem_of_getElem? (i := 754) (by decide +kernel)⟩
theorem lw_p22 : lw_okq (⟨"TinDucks", "allHitWithout", "(I)Z"⟩, 16) := ⟨⟨by decide +kernel, by decide +kernel⟩, List.mem_of_getElem? (i := 21) (by decide +kernel), List.mem_of_getElem? (i := 757) (by decide +kernel), List.mem_of_getElem? (i := 758) (by decide +kernel)⟩
theorem lw_p23 : lw_okq (⟨"TinDucks", "tryEvents", "(I)V"⟩, 16) := ⟨⟨by decide +kernel, by decide +kernel⟩, List.mem_of_getElem? (i := 21) (by decide +kernel), List.mem_of_getElem? (i := 761) (by decide +kernel), List.mem_of_getElem? (i := 762) (by decide +kernel)⟩
theorem lw_p24 : lw_okq (⟨"TinDucks", "eventsThatNeverWere", "()I"⟩, 16) := ⟨⟨by decide +kernel, by decide +kernel⟩, List.mem_of_getElem? (i := 21) (by decide +kernel), List.mem_of_getElem? (i := 792) (by decide +kernel), List.mem_of_getElem? (i := 793) (by decide +kernel)⟩
theorem lw_p25 : lw_okq (⟨"TinDucks", "bitIfSeen", "(I)I"⟩, 16) := ⟨⟨by decide +kernel, by decide +kernel⟩, List.mem_of_getElem? (i := 21) (by decide +kernel), List.mem_of_getElem? (i := 796) (by decide +kernel), List.mem_of_getElem? (i := 797) (by decide +kernel)⟩
theorem lw_p26 : lw_okq (⟨"TinDucks", "pullsThatMightBe", "()I"⟩, 16) := ⟨⟨by decide +kernel, by decide +kernel⟩, List.mem_of_getElem? (i := 21) (by decide +kernel), List.mem_of_getElem? (i := 805) (by decide +kernel), List.mem_of_getElem? (i := 806) (by decide +kernel)⟩
theorem lw_p27 : lw_okq (⟨"TinDucks", "kindsThatMightBe", "(I)I"⟩, 16) := ⟨⟨by decide +kernel, by decide +kernel⟩, List.mem_of_getElem? (i := 21) (by decide +kernel), List.mem_of_getElem? (i := 813) (by decide +kernel), List.mem_of_getElem? (i := 814) (by decide +kernel)⟩
theorem lw_p28 : lw_okq (⟨"TinDucks", "tickToAsk", "()I"⟩, 16) := ⟨⟨by decide +kernel, by decide +kernel⟩, List.mem_of_getElem? (i := 21) (by decide +kernel), List.mem_of_getElem? (i := 821) (by decide +kernel), List.mem_of_getElem? (i := 822) (by decide +kernel)⟩
theorem lw_p29 : lw_okq (⟨"TinDucks", "greatestLikeGroup", "(II)I"⟩, 16) := ⟨⟨by decide +kernel, by decide +kernel⟩, List.mem_of_getElem? (i := 21) (by decide +kernel), List.mem_of_getElem? (i := 825) (by decide +kernel), List.mem_of_getElem? (i := 826) (by decide +kernel)⟩
theorem lw_p30 : lw_okq (⟨"TinDucks", "learnChances", "()V"⟩, 16) := ⟨⟨by decide +kernel, by decide +kernel⟩, List.mem_of_getElem? (i := 21) (by decide +kernel), List.mem_of_getElem? (i := 835) (by decide +kernel), List.mem_of_getElem? (i := 836) (by decide +kernel)⟩
theorem lw_p31 : lw_okq (⟨"TinDucks", "chanceLearned", "(III)J"⟩, 16) := ⟨⟨by decide +kernel, by decide +kernel⟩, List.mem_of_getElem? (i := 21) (by decide +kernel), List.mem_of_getElem? (i := 840) (by decide +kernel), List.mem_of_getElem? (i := 841) (by decide +kernel)⟩
def lw_privs_2 : List (MethodName × Nat) := [(⟨"TinDucks", "easiestDuck", "()I"⟩, 16), (⟨"TinDucks", "safeDucks", "()I"⟩, 16), (⟨"TinDucks", "seekAim", "(I)V"⟩, 16), (⟨"TinDucks", "seekFire", "(I)V"⟩, 16), (⟨"TinDucks", "seekMend", "()V"⟩, 16), (⟨"TinDucks", "eventsToSpare", "()I"⟩, 16), (⟨"TinDucks", "allHitWithout", "(I)Z"⟩, 16), (⟨"TinDucks", "tryEvents", "(I)V"⟩, 16), (⟨"TinDucks", "eventsThatNeverWere", "()I"⟩, 16), (⟨"TinDucks", "bitIfSeen", "(I)I"⟩, 16), (⟨"TinDucks", "pullsThatMightBe", "()I"⟩, 16), (⟨"TinDucks", "kindsThatMightBe", "(I)I"⟩, 16), (⟨"TinDucks", "tickToAsk", "()I"⟩, 16), (⟨"TinDucks", "greatestLikeGroup", "(II)I"⟩, 16), (⟨"TinDucks", "learnChances", "()V"⟩, 16), (⟨"TinDucks", "chanceLearned", "(III)J"⟩, 16)]
theorem lw_r2 : ∀ q ∈ lw_privs_2, lw_okq q := List.forall_mem_cons.mpr ⟨lw_p16, List.forall_mem_cons.mpr ⟨lw_p17, List.forall_mem_cons.mpr ⟨lw_p18, List.forall_mem_cons.mpr ⟨lw_p19, List.forall_mem_cons.mpr ⟨lw_p20, List.forall_mem_cons.mpr ⟨lw_p21, List.forall_mem_cons.mpr ⟨lw_p22, List.forall_mem_cons.mpr ⟨lw_p23, List.forall_mem_cons.mpr ⟨lw_p24, List.forall_mem_cons.mpr ⟨lw_p25, List.forall_mem_cons.mpr ⟨lw_p26, List.forall_mem_cons.mpr ⟨lw_p27, List.forall_mem_cons.mpr ⟨lw_p28, List.forall_mem_cons.mpr ⟨lw_p29, List.forall_mem_cons.mpr ⟨lw_p30, List.forall_mem_cons.mpr ⟨lw_p31, fun _ h => absurd h List.not_mem_nil⟩⟩⟩⟩⟩⟩⟩⟩⟩⟩⟩⟩⟩⟩⟩⟩
theorem lw_p32 : lw_okq (⟨"TinDucks", "weightOfHits", "(II)J"⟩, 16) := ⟨⟨by decide +kernel, by decide +kernel⟩, List.mem_of_getElem? (i := 21) (by decide +kernel), List.mem_of_getElem? (i := 844) (by decide +kernel), List.mem_of_getElem? (i := 845) (by decide +kernel)⟩
theorem lw_p33 : lw_okq (⟨"TinDucks", "tryFair", "(II)V"⟩, 16) := ⟨⟨by decide +kernel, by decide +kernel⟩, List.mem_of_getElem? (i := 21) (by decide +kernel), List.mem_of_getElem? (i := 861) (by decide +kernel), List.mem_of_getElem? (i := 862) (by decide +kernel)⟩
theorem lw_p34 : lw_okq (⟨"TinDucks", "refuseItem", "(III)I"⟩, 16) := ⟨⟨by decide +kernel, by decide +kernel⟩, List.mem_of_getElem? (i := 21) (by decide +kernel), List.mem_of_getElem? (i := 890) (by decide +kernel), List.mem_of_getElem? (i := 891) (by decide +kernel)⟩
theorem lw_p35 : lw_okq (⟨"TinDucks", "tellCount", "(I)I"⟩, 16) := ⟨⟨by decide +kernel, by decide +kernel⟩, List.mem_of_getElem? (i := 21) (by decide +kernel), List.mem_of_getElem? (i := 920) (by decide +kernel), List.mem_of_getElem? (i := 921) (by decide +kernel)⟩
theorem lw_p36 : lw_okq (⟨"TinDucks", "digestTold", "(J)J"⟩, 16) := ⟨⟨by decide +kernel, by decide +kernel⟩, List.mem_of_getElem? (i := 21) (by decide +kernel), List.mem_of_getElem? (i := 929) (by decide +kernel), List.mem_of_getElem? (i := 930) (by decide +kernel)⟩
theorem lw_p37 : lw_okq (⟨"TinDucks", "digestDuck", "(JI)J"⟩, 16) := ⟨⟨by decide +kernel, by decide +kernel⟩, List.mem_of_getElem? (i := 21) (by decide +kernel), List.mem_of_getElem? (i := 937) (by decide +kernel), List.mem_of_getElem? (i := 938) (by decide +kernel)⟩
theorem lw_p38 : lw_okq (⟨"TinDucks", "digestShot", "(JI)J"⟩, 16) := ⟨⟨by decide +kernel, by decide +kernel⟩, List.mem_of_getElem? (i := 21) (by decide +kernel), List.mem_of_getElem? (i := 943) (by decide +kernel), List.mem_of_getElem? (i := 944) (by decide +kernel)⟩
theorem lw_p39 : lw_okq (⟨"TinDucks", "mixFound", "(J)J"⟩, 16) := ⟨⟨by decide +kernel, by decide +kernel⟩, List.mem_of_getElem? (i := 21) (by decide +kernel), List.mem_of_getElem? (i := 947) (by decide +kernel), List.mem_of_getElem? (i := 948) (by decide +kernel)⟩
theorem lw_p40 : lw_okq (⟨"TinDucks", "digestSums", "(J)J"⟩, 16) := ⟨⟨by decide +kernel, by decide +kernel⟩, List.mem_of_getElem? (i := 21) (by decide +kernel), List.mem_of_getElem? (i := 951) (by decide +kernel), List.mem_of_getElem? (i := 952) (by decide +kernel)⟩
theorem lw_p41 : lw_okq (⟨"TinDucks", "digestPlans", "(J)J"⟩, 16) := ⟨⟨by decide +kernel, by decide +kernel⟩, List.mem_of_getElem? (i := 21) (by decide +kernel), List.mem_of_getElem? (i := 955) (by decide +kernel), List.mem_of_getElem? (i := 956) (by decide +kernel)⟩
theorem lw_p42 : lw_okq (⟨"TinDucksModel", "finds", "(I)I"⟩, 28) := ⟨⟨by decide +kernel, by decide +kernel⟩, List.mem_of_getElem? (i := 959) (by decide +kernel), List.mem_of_getElem? (i := 1062) (by decide +kernel), List.mem_of_getElem? (i := 1063) (by decide +kernel)⟩
theorem lw_p43 : lw_okq (⟨"TinDucksModel", "lacks", "(III)I"⟩, 28) := ⟨⟨by decide +kernel, by decide +kernel⟩, List.mem_of_getElem? (i := 959) (by decide +kernel), List.mem_of_getElem? (i := 1074) (by decide +kernel), List.mem_of_getElem? (i := 1075) (by decide +kernel)⟩
theorem lw_p44 : lw_okq (⟨"TinDucksModel", "readsText", "(I)I"⟩, 28) := ⟨⟨by decide +kernel, by decide +kernel⟩, List.mem_of_getElem? (i := 959) (by decide +kernel), List.mem_of_getElem? (i := 1110) (by decide +kernel), List.mem_of_getElem? (i := 1111) (by decide +kernel)⟩
theorem lw_p45 : lw_okq (⟨"TinDucksModel", "readsChains", "()I"⟩, 28) := ⟨⟨by decide +kernel, by decide +kernel⟩, List.mem_of_getElem? (i := 959) (by decide +kernel), List.mem_of_getElem? (i := 1114) (by decide +kernel), List.mem_of_getElem? (i := 1115) (by decide +kernel)⟩
theorem lw_p46 : lw_okq (⟨"TinDucksModel", "usual", "()V"⟩, 28) := ⟨⟨by decide +kernel, by decide +kernel⟩, List.mem_of_getElem? (i := 959) (by decide +kernel), List.mem_of_getElem? (i := 1118) (by decide +kernel), List.mem_of_getElem? (i := 1119) (by decide +kernel)⟩
theorem lw_p47 : lw_okq (⟨"TinDucksModel", "readsDucks", "()I"⟩, 28) := ⟨⟨by decide +kernel, by decide +kernel⟩, List.mem_of_getElem? (i := 959) (by decide +kernel), List.mem_of_getElem? (i := 1128) (by decide +kernel), List.mem_of_getElem? (i := 1129) (by decide +kernel)⟩
def lw_privs_3 : List (MethodName × Nat) := [(⟨"TinDucks", "weightOfHits", "(II)J"⟩, 16), (⟨"TinDucks", "tryFair", "(II)V"⟩, 16), (⟨"TinDucks", "refuseItem", "(III)I"⟩, 16), (⟨"TinDucks", "tellCount", "(I)I"⟩, 16), (⟨"TinDucks", "digestTold", "(J)J"⟩, 16), (⟨"TinDucks", "digestDuck", "(JI)J"⟩, 16), (⟨"TinDucks", "digestShot", "(JI)J"⟩, 16), (⟨"TinDucks", "mixFound", "(J)J"⟩, 16), (⟨"TinDucks", "digestSums", "(J)J"⟩, 16), (⟨"TinDucks", "digestPlans", "(J)J"⟩, 16), (⟨"TinDucksModel", "finds", "(I)I"⟩, 28), (⟨"TinDucksModel", "lacks", "(III)I"⟩, 28), (⟨"TinDucksModel", "readsText", "(I)I"⟩, 28), (⟨"TinDucksModel", "readsChains", "()I"⟩, 28), (⟨"TinDucksModel", "usual", "()V"⟩, 28), (⟨"TinDucksModel", "readsDucks", "()I"⟩, 28)]
theorem lw_r3 : ∀ q ∈ lw_privs_3, lw_okq q := List.forall_mem_cons.mpr ⟨lw_p32, List.forall_mem_cons.mpr ⟨lw_p33, List.forall_mem_cons.mpr ⟨lw_p34, List.forall_mem_cons.mpr ⟨lw_p35, List.forall_mem_cons.mpr ⟨lw_p36, List.forall_mem_cons.mpr ⟨lw_p37, List.forall_mem_cons.mpr ⟨lw_p38, List.forall_mem_cons.mpr ⟨lw_p39, List.forall_mem_cons.mpr ⟨lw_p40, List.forall_mem_cons.mpr ⟨lw_p41, List.forall_mem_cons.mpr ⟨lw_p42, List.forall_mem_cons.mpr ⟨lw_p43, List.forall_mem_cons.mpr ⟨lw_p44, List.forall_mem_cons.mpr ⟨lw_p45, List.forall_mem_cons.mpr ⟨lw_p46, List.forall_mem_cons.mpr ⟨lw_p47, fun _ h => absurd h List.not_mem_nil⟩⟩⟩⟩⟩⟩⟩⟩⟩⟩⟩⟩⟩⟩⟩⟩
theorem lw_p48 : lw_okq (⟨"TinDucksModel", "isTaken", "(I)Z"⟩, 28) := ⟨⟨by decide +kernel, by decide +kernel⟩, List.mem_of_getElem? (i := 959) (by decide +kernel), List.mem_of_getElem? (i := 1139) (by decide +kernel), List.mem_of_getElem? (i := 1140) (by decide +kernel)⟩
theorem lw_p49 : lw_okq (⟨"TinDucksModel", "readsShots", "()I"⟩, 28) := ⟨⟨by decide +kernel, by decide +kernel⟩, List.mem_of_getElem? (i := 959) (by decide +kernel), List.mem_of_getElem? (i := 1143) (by decide +kernel), List.mem_of_getElem? (i := 1144) (by decide +kernel)⟩
theorem lw_p50 : lw_okq (⟨"TinDucksModel", "isDuck", "(I)Z"⟩, 28) := ⟨⟨by decide +kernel, by decide +kernel⟩, List.mem_of_getElem? (i := 959) (by decide +kernel), List.mem_of_getElem? (i := 1161) (by decide +kernel), List.mem_of_getElem? (i := 1162) (by decide +kernel)⟩
theorem lw_p51 : lw_okq (⟨"TinDucksModel", "isShot", "(I)Z"⟩, 28) := ⟨⟨by decide +kernel, by decide +kernel⟩, List.mem_of_getElem? (i := 959) (by decide +kernel), List.mem_of_getElem? (i := 1169) (by decide +kernel), List.mem_of_getElem? (i := 1170) (by decide +kernel)⟩
theorem lw_p52 : lw_okq (⟨"TinDucksModel", "find", "()V"⟩, 28) := ⟨⟨by decide +kernel, by decide +kernel⟩, List.mem_of_getElem? (i := 959) (by decide +kernel), List.mem_of_getElem? (i := 1203) (by decide +kernel), List.mem_of_getElem? (i := 1204) (by decide +kernel)⟩
theorem lw_p53 : lw_okq (⟨"TinDucksModel", "lives", "()V"⟩, 28) := ⟨⟨by decide +kernel, by decide +kernel⟩, List.mem_of_getElem? (i := 959) (by decide +kernel), List.mem_of_getElem? (i := 1207) (by decide +kernel), List.mem_of_getElem? (i := 1208) (by decide +kernel)⟩
theorem lw_p54 : lw_okq (⟨"TinDucksModel", "passes", "(I)V"⟩, 28) := ⟨⟨by decide +kernel, by decide +kernel⟩, List.mem_of_getElem? (i := 959) (by decide +kernel), List.mem_of_getElem? (i := 1211) (by decide +kernel), List.mem_of_getElem? (i := 1212) (by decide +kernel)⟩
theorem lw_p55 : lw_okq (⟨"TinDucksModel", "turns", "(I)V"⟩, 28) := ⟨⟨by decide +kernel, by decide +kernel⟩, List.mem_of_getElem? (i := 959) (by decide +kernel), List.mem_of_getElem? (i := 1215) (by decide +kernel), List.mem_of_getElem? (i := 1216) (by decide +kernel)⟩
theorem lw_p56 : lw_okq (⟨"TinDucksModel", "toldIn", "(II)I"⟩, 28) := ⟨⟨by decide +kernel, by decide +kernel⟩, List.mem_of_getElem? (i := 959) (by decide +kernel), List.mem_of_getElem? (i := 1219) (by decide +kernel), List.mem_of_getElem? (i := 1220) (by decide +kernel)⟩
theorem lw_p57 : lw_okq (⟨"TinDucksModel", "comes", "(II)V"⟩, 28) := ⟨⟨by decide +kernel, by decide +kernel⟩, List.mem_of_getElem? (i := 959) (by decide +kernel), List.mem_of_getElem? (i := 1226) (by decide +kernel), List.mem_of_getElem? (i := 1227) (by decide +kernel)⟩
theorem lw_p58 : lw_okq (⟨"TinDucksModel", "target", "(II)I"⟩, 28) := ⟨⟨by decide +kernel, by decide +kernel⟩, List.mem_of_getElem? (i := 959) (by decide +kernel), List.mem_of_getElem? (i := 1231) (by decide +kernel), List.mem_of_getElem? (i := 1232) (by decide +kernel)⟩
theorem lw_p59 : lw_okq (⟨"TinDucksModel", "atBy", "(III)I"⟩, 28) := ⟨⟨by decide +kernel, by decide +kernel⟩, List.mem_of_getElem? (i := 959) (by decide +kernel), List.mem_of_getElem? (i := 1235) (by decide +kernel), List.mem_of_getElem? (i := 1236) (by decide +kernel)⟩
theorem lw_p60 : lw_okq (⟨"TinDucksModel", "seesBy", "(III)I"⟩, 28) := ⟨⟨by decide +kernel, by decide +kernel⟩, List.mem_of_getElem? (i := 959) (by decide +kernel), List.mem_of_getElem? (i := 1243) (by decide +kernel), List.mem_of_getElem? (i := 1244) (by decide +kernel)⟩
theorem lw_p61 : lw_okq (⟨"TinDucksModel", "downBy", "(I)I"⟩, 28) := ⟨⟨by decide +kernel, by decide +kernel⟩, List.mem_of_getElem? (i := 959) (by decide +kernel), List.mem_of_getElem? (i := 1251) (by decide +kernel), List.mem_of_getElem? (i := 1252) (by decide +kernel)⟩
theorem lw_p62 : lw_okq (⟨"TinDucksModel", "hitsBy", "(II)I"⟩, 28) := ⟨⟨by decide +kernel, by decide +kernel⟩, List.mem_of_getElem? (i := 959) (by decide +kernel), List.mem_of_getElem? (i := 1259) (by decide +kernel), List.mem_of_getElem? (i := 1260) (by decide +kernel)⟩
theorem lw_p63 : lw_okq (⟨"TinDucksModel", "sumBy", "(I)I"⟩, 28) := ⟨⟨by decide +kernel, by decide +kernel⟩, List.mem_of_getElem? (i := 959) (by decide +kernel), List.mem_of_getElem? (i := 1267) (by decide +kernel), List.mem_of_getElem? (i := 1268) (by decide +kernel)⟩
def lw_privs_4 : List (MethodName × Nat) := [(⟨"TinDucksModel", "isTaken", "(I)Z"⟩, 28), (⟨"TinDucksModel", "readsShots", "()I"⟩, 28), (⟨"TinDucksModel", "isDuck", "(I)Z"⟩, 28), (⟨"TinDucksModel", "isShot", "(I)Z"⟩, 28), (⟨"TinDucksModel", "find", "()V"⟩, 28), (⟨"TinDucksModel", "lives", "()V"⟩, 28), (⟨"TinDucksModel", "passes", "(I)V"⟩, 28), (⟨"TinDucksModel", "turns", "(I)V"⟩, 28), (⟨"TinDucksModel", "toldIn", "(II)I"⟩, 28), (⟨"TinDucksModel", "comes", "(II)V"⟩, 28), (⟨"TinDucksModel", "target", "(II)I"⟩, 28), (⟨"TinDucksModel", "atBy", "(III)I"⟩, 28), (⟨"TinDucksModel", "seesBy", "(III)I"⟩, 28), (⟨"TinDucksModel", "downBy", "(I)I"⟩, 28), (⟨"TinDucksModel", "hitsBy", "(II)I"⟩, 28), (⟨"TinDucksModel", "sumBy", "(I)I"⟩, 28)]
theorem lw_r4 : ∀ q ∈ lw_privs_4, lw_okq q := List.forall_mem_cons.mpr ⟨lw_p48, List.forall_mem_cons.mpr ⟨lw_p49, List.forall_mem_cons.mpr ⟨lw_p50, List.forall_mem_cons.mpr ⟨lw_p51, List.forall_mem_cons.mpr ⟨lw_p52, List.forall_mem_cons.mpr ⟨lw_p53, List.forall_mem_cons.mpr ⟨lw_p54, List.forall_mem_cons.mpr ⟨lw_p55, List.forall_mem_cons.mpr ⟨lw_p56, List.forall_mem_cons.mpr ⟨lw_p57, List.forall_mem_cons.mpr ⟨lw_p58, List.forall_mem_cons.mpr ⟨lw_p59, List.forall_mem_cons.mpr ⟨lw_p60, List.forall_mem_cons.mpr ⟨lw_p61, List.forall_mem_cons.mpr ⟨lw_p62, List.forall_mem_cons.mpr ⟨lw_p63, fun _ h => absurd h List.not_mem_nil⟩⟩⟩⟩⟩⟩⟩⟩⟩⟩⟩⟩⟩⟩⟩⟩
theorem lw_p64 : lw_okq (⟨"TinDucksModel", "score", "()I"⟩, 28) := ⟨⟨by decide +kernel, by decide +kernel⟩, List.mem_of_getElem? (i := 959) (by decide +kernel), List.mem_of_getElem? (i := 1271) (by decide +kernel), List.mem_of_getElem? (i := 1272) (by decide +kernel)⟩
theorem lw_p65 : lw_okq (⟨"TinDucksModel", "manyHit", "()I"⟩, 28) := ⟨⟨by decide +kernel, by decide +kernel⟩, List.mem_of_getElem? (i := 959) (by decide +kernel), List.mem_of_getElem? (i := 1275) (by decide +kernel), List.mem_of_getElem? (i := 1276) (by decide +kernel)⟩
theorem lw_p66 : lw_okq (⟨"TinDucksModel", "runBy", "(I)I"⟩, 28) := ⟨⟨by decide +kernel, by decide +kernel⟩, List.mem_of_getElem? (i := 959) (by decide +kernel), List.mem_of_getElem? (i := 1283) (by decide +kernel), List.mem_of_getElem? (i := 1284) (by decide +kernel)⟩
theorem lw_p67 : lw_okq (⟨"TinDucksModel", "easyNow", "()I"⟩, 28) := ⟨⟨by decide +kernel, by decide +kernel⟩, List.mem_of_getElem? (i := 959) (by decide +kernel), List.mem_of_getElem? (i := 1294) (by decide +kernel), List.mem_of_getElem? (i := 1295) (by decide +kernel)⟩
theorem lw_p68 : lw_okq (⟨"TinDucksModel", "safeNow", "()I"⟩, 28) := ⟨⟨by decide +kernel, by decide +kernel⟩, List.mem_of_getElem? (i := 959) (by decide +kernel), List.mem_of_getElem? (i := 1302) (by decide +kernel), List.mem_of_getElem? (i := 1303) (by decide +kernel)⟩
theorem lw_p69 : lw_okq (⟨"TinDucksModel", "shotBetter", "(III)I"⟩, 28) := ⟨⟨by decide +kernel, by decide +kernel⟩, List.mem_of_getElem? (i := 959) (by decide +kernel), List.mem_of_getElem? (i := 1310) (by decide +kernel), List.mem_of_getElem? (i := 1311) (by decide +kernel)⟩
theorem lw_p70 : lw_okq (⟨"TinDucksModel", "mendBy", "(I)I"⟩, 28) := ⟨⟨by decide +kernel, by decide +kernel⟩, List.mem_of_getElem? (i := 959) (by decide +kernel), List.mem_of_getElem? (i := 1322) (by decide +kernel), List.mem_of_getElem? (i := 1323) (by decide +kernel)⟩
theorem lw_p71 : lw_okq (⟨"TinDucksModel", "spareBy", "(I)I"⟩, 28) := ⟨⟨by decide +kernel, by decide +kernel⟩, List.mem_of_getElem? (i := 959) (by decide +kernel), List.mem_of_getElem? (i := 1331) (by decide +kernel), List.mem_of_getElem? (i := 1332) (by decide +kernel)⟩
theorem lw_p72 : lw_okq (⟨"TinDucksModel", "isSpared", "(I)Z"⟩, 28) := ⟨⟨by decide +kernel, by decide +kernel⟩, List.mem_of_getElem? (i := 959) (by decide +kernel), List.mem_of_getElem? (i := 1335) (by decide +kernel), List.mem_of_getElem? (i := 1336) (by decide +kernel)⟩
theorem lw_p73 : lw_okq (⟨"TinDucksModel", "mightBy", "(I)I"⟩, 28) := ⟨⟨by decide +kernel, by decide +kernel⟩, List.mem_of_getElem? (i := 959) (by decide +kernel), List.mem_of_getElem? (i := 1351) (by decide +kernel), List.mem_of_getElem? (i := 1352) (by decide +kernel)⟩
theorem lw_p74 : lw_okq (⟨"TinDucksModel", "neverNow", "()I"⟩, 28) := ⟨⟨by decide +kernel, by decide +kernel⟩, List.mem_of_getElem? (i := 959) (by decide +kernel), List.mem_of_getElem? (i := 1355) (by decide +kernel), List.mem_of_getElem? (i := 1356) (by decide +kernel)⟩
theorem lw_p75 : lw_okq (⟨"TinDucksModel", "isSeen", "()Z"⟩, 28) := ⟨⟨by decide +kernel, by decide +kernel⟩, List.mem_of_getElem? (i := 959) (by decide +kernel), List.mem_of_getElem? (i := 1359) (by decide +kernel), List.mem_of_getElem? (i := 1360) (by decide +kernel)⟩
theorem lw_p76 : lw_okq (⟨"TinDucksModel", "pullsNow", "()I"⟩, 28) := ⟨⟨by decide +kernel, by decide +kernel⟩, List.mem_of_getElem? (i := 959) (by decide +kernel), List.mem_of_getElem? (i := 1363) (by decide +kernel), List.mem_of_getElem? (i := 1364) (by decide +kernel)⟩
theorem lw_p77 : lw_okq (⟨"TinDucksModel", "downBits", "(I)I"⟩, 28) := ⟨⟨by decide +kernel, by decide +kernel⟩, List.mem_of_getElem? (i := 959) (by decide +kernel), List.mem_of_getElem? (i := 1367) (by decide +kernel), List.mem_of_getElem? (i := 1368) (by decide +kernel)⟩
theorem lw_p78 : lw_okq (⟨"TinDucksModel", "kindOf", "(I)I"⟩, 28) := ⟨⟨by decide +kernel, by decide +kernel⟩, List.mem_of_getElem? (i := 959) (by decide +kernel), List.mem_of_getElem? (i := 1375) (by decide +kernel), List.mem_of_getElem? (i := 1376) (by decide +kernel)⟩
theorem lw_p79 : lw_okq (⟨"TinDucksModel", "askNow", "()I"⟩, 28) := ⟨⟨by decide +kernel, by decide +kernel⟩, List.mem_of_getElem? (i := 959) (by decide +kernel), List.mem_of_getElem? (i := 1383) (by decide +kernel), List.mem_of_getElem? (i := 1384) (by decide +kernel)⟩
def lw_privs_5 : List (MethodName × Nat) := [(⟨"TinDucksModel", "score", "()I"⟩, 28), (⟨"TinDucksModel", "manyHit", "()I"⟩, 28), (⟨"TinDucksModel", "runBy", "(I)I"⟩, 28), (⟨"TinDucksModel", "easyNow", "()I"⟩, 28), (⟨"TinDucksModel", "safeNow", "()I"⟩, 28), (⟨"TinDucksModel", "shotBetter", "(III)I"⟩, 28), (⟨"TinDucksModel", "mendBy", "(I)I"⟩, 28), (⟨"TinDucksModel", "spareBy", "(I)I"⟩, 28), (⟨"TinDucksModel", "isSpared", "(I)Z"⟩, 28), (⟨"TinDucksModel", "mightBy", "(I)I"⟩, 28), (⟨"TinDucksModel", "neverNow", "()I"⟩, 28), (⟨"TinDucksModel", "isSeen", "()Z"⟩, 28), (⟨"TinDucksModel", "pullsNow", "()I"⟩, 28), (⟨"TinDucksModel", "downBits", "(I)I"⟩, 28), (⟨"TinDucksModel", "kindOf", "(I)I"⟩, 28), (⟨"TinDucksModel", "askNow", "()I"⟩, 28)]
theorem lw_r5 : ∀ q ∈ lw_privs_5, lw_okq q := List.forall_mem_cons.mpr ⟨lw_p64, List.forall_mem_cons.mpr ⟨lw_p65, List.forall_mem_cons.mpr ⟨lw_p66, List.forall_mem_cons.mpr ⟨lw_p67, List.forall_mem_cons.mpr ⟨lw_p68, List.forall_mem_cons.mpr ⟨lw_p69, List.forall_mem_cons.mpr ⟨lw_p70, List.forall_mem_cons.mpr ⟨lw_p71, List.forall_mem_cons.mpr ⟨lw_p72, List.forall_mem_cons.mpr ⟨lw_p73, List.forall_mem_cons.mpr ⟨lw_p74, List.forall_mem_cons.mpr ⟨lw_p75, List.forall_mem_cons.mpr ⟨lw_p76, List.forall_mem_cons.mpr ⟨lw_p77, List.forall_mem_cons.mpr ⟨lw_p78, List.forall_mem_cons.mpr ⟨lw_p79, fun _ h => absurd h List.not_mem_nil⟩⟩⟩⟩⟩⟩⟩⟩⟩⟩⟩⟩⟩⟩⟩⟩
theorem lw_p80 : lw_okq (⟨"TinDucksModel", "alike", "(II)I"⟩, 28) := ⟨⟨by decide +kernel, by decide +kernel⟩, List.mem_of_getElem? (i := 959) (by decide +kernel), List.mem_of_getElem? (i := 1387) (by decide +kernel), List.mem_of_getElem? (i := 1388) (by decide +kernel)⟩
theorem lw_p81 : lw_okq (⟨"TinDucksModel", "chanceOf", "(III)J"⟩, 28) := ⟨⟨by decide +kernel, by decide +kernel⟩, List.mem_of_getElem? (i := 959) (by decide +kernel), List.mem_of_getElem? (i := 1396) (by decide +kernel), List.mem_of_getElem? (i := 1397) (by decide +kernel)⟩
theorem lw_p82 : lw_okq (⟨"TinDucksModel", "fairsOf", "(III)I"⟩, 28) := ⟨⟨by decide +kernel, by decide +kernel⟩, List.mem_of_getElem? (i := 959) (by decide +kernel), List.mem_of_getElem? (i := 1412) (by decide +kernel), List.mem_of_getElem? (i := 1413) (by decide +kernel)⟩
theorem lw_p83 : lw_okq (⟨"TinDucksModel", "lot", "(I)I"⟩, 28) := ⟨⟨by decide +kernel, by decide +kernel⟩, List.mem_of_getElem? (i := 959) (by decide +kernel), List.mem_of_getElem? (i := 1416) (by decide +kernel), List.mem_of_getElem? (i := 1417) (by decide +kernel)⟩
theorem lw_p84 : lw_okq (⟨"TinDucksModel", "tellsDuck", "(JI)J"⟩, 28) := ⟨⟨by decide +kernel, by decide +kernel⟩, List.mem_of_getElem? (i := 959) (by decide +kernel), List.mem_of_getElem? (i := 1439) (by decide +kernel), List.mem_of_getElem? (i := 1440) (by decide +kernel)⟩
theorem lw_p85 : lw_okq (⟨"TinDucksModel", "tellsTick", "(JII)J"⟩, 28) := ⟨⟨by decide +kernel, by decide +kernel⟩, List.mem_of_getElem? (i := 959) (by decide +kernel), List.mem_of_getElem? (i := 1443) (by decide +kernel), List.mem_of_getElem? (i := 1444) (by decide +kernel)⟩
theorem lw_p86 : lw_okq (⟨"TinDucksModel", "tellsShot", "(JI)J"⟩, 28) := ⟨⟨by decide +kernel, by decide +kernel⟩, List.mem_of_getElem? (i := 959) (by decide +kernel), List.mem_of_getElem? (i := 1447) (by decide +kernel), List.mem_of_getElem? (i := 1448) (by decide +kernel)⟩
def lw_privs_6 : List (MethodName × Nat) := [(⟨"TinDucksModel", "alike", "(II)I"⟩, 28), (⟨"TinDucksModel", "chanceOf", "(III)J"⟩, 28), (⟨"TinDucksModel", "fairsOf", "(III)I"⟩, 28), (⟨"TinDucksModel", "lot", "(I)I"⟩, 28), (⟨"TinDucksModel", "tellsDuck", "(JI)J"⟩, 28), (⟨"TinDucksModel", "tellsTick", "(JII)J"⟩, 28), (⟨"TinDucksModel", "tellsShot", "(JI)J"⟩, 28)]
theorem lw_r6 : ∀ q ∈ lw_privs_6, lw_okq q := List.forall_mem_cons.mpr ⟨lw_p80, List.forall_mem_cons.mpr ⟨lw_p81, List.forall_mem_cons.mpr ⟨lw_p82, List.forall_mem_cons.mpr ⟨lw_p83, List.forall_mem_cons.mpr ⟨lw_p84, List.forall_mem_cons.mpr ⟨lw_p85, List.forall_mem_cons.mpr ⟨lw_p86, fun _ h => absurd h List.not_mem_nil⟩⟩⟩⟩⟩⟩⟩
def lw_privs : List (MethodName × Nat) := lw_privs_1 ++ (lw_privs_2 ++ (lw_privs_3 ++ (lw_privs_4 ++ (lw_privs_5 ++ (lw_privs_6)))))
def lw_tbl : List Cond := k2_sels lw_privs ++ tables_1
theorem lw_privs_ok : ∀ q ∈ lw_privs, lw_okq q := by
  show ∀ q ∈ lw_privs_1 ++ (lw_privs_2 ++ (lw_privs_3 ++ (lw_privs_4 ++ (lw_privs_5 ++ (lw_privs_6))))), lw_okq q
  exact List.forall_mem_append.mpr ⟨lw_r1, List.forall_mem_append.mpr ⟨lw_r2, List.forall_mem_append.mpr ⟨lw_r3, List.forall_mem_append.mpr ⟨lw_r4, List.forall_mem_append.mpr ⟨lw_r5, lw_r6⟩⟩⟩⟩⟩
end
section
def RX0 : String := "TinDucks$Course"
def TX0 : u_T := fun k => match k with
  | 0 => ("TinDucks$Course", "stand", "LTinDucks$Stand;", true)
  | 1 => ("TinDucks$Course", "events", "LTinDucks$Events;", true)
  | 2 => ("TinDucks$Course", "gone", "[I", true)
  | 3 => ("TinDucks$Course", "standing", "[I", true)
  | _ => ("TinDucks$Course", "draught", "[I", true)
def tyX0 : Nat → FieldType := fun k => match k with
  | 0 => .object "TinDucks$Stand"
  | 1 => .object "TinDucks$Events"
  | 2 => .array .int
  | 3 => .array .int
  | _ => .array .int
theorem nmX0 : ∀ a, a < 5 → ∀ b, b < 5 → a ≠ b → (TX0 a).2.1 ≠ (TX0 b).2.1 := by decide +kernel
theorem tyX0_ok : ∀ k, k < 5 → parseFieldDescriptor (TX0 k).2.2.1 = some (tyX0 k) := by decide +kernel
abbrev cX0_init : ByteArray := prog_2_method_1_code
def yX0_init : MethodName := ⟨RX0, "<init>", "(LTinDucks$Stand;LTinDucks$Events;)V"⟩
abbrev cX0_go : ByteArray := prog_2_method_2_code
def yX0_go : MethodName := ⟨RX0, "go", "(I)V"⟩
abbrev cX0_goOn : ByteArray := prog_2_method_3_code
def yX0_goOn : MethodName := ⟨RX0, "goOn", "(II)I"⟩
abbrev cX0_placeBehind : ByteArray := prog_2_method_4_code
def yX0_placeBehind : MethodName := ⟨RX0, "placeBehind", "(II)I"⟩
abbrev cX0_duckAt : ByteArray := prog_2_method_5_code
def yX0_duckAt : MethodName := ⟨RX0, "duckAt", "(III)I"⟩
def RX1 : String := "TinDucks$Events"
def TX1 : u_T := fun k => match k with
  | 0 => ("TinDucks$Events", "kindOf", "[I", true)
  | 1 => ("TinDucks$Events", "tickOf", "[I", true)
  | 2 => ("TinDucks$Events", "numberOf", "[I", true)
  | 3 => ("TinDucks$Events", "inTick", "[I", true)
  | _ => ("TinDucks$Events", "count", "I", false)
def tyX1 : Nat → FieldType := fun k => match k with
  | 0 => .array .int
  | 1 => .array .int
  | 2 => .array .int
  | 3 => .array .int
  | _ => .int
theorem nmX1 : ∀ a, a < 5 → ∀ b, b < 5 → a ≠ b → (TX1 a).2.1 ≠ (TX1 b).2.1 := by decide +kernel
theorem tyX1_ok : ∀ k, k < 5 → parseFieldDescriptor (TX1 k).2.2.1 = some (tyX1 k) := by decide +kernel
abbrev cX1_init : ByteArray := prog_3_method_1_code
def yX1_init : MethodName := ⟨RX1, "<init>", "()V"⟩
abbrev cX1_isFull : ByteArray := prog_3_method_2_code
def yX1_isFull : MethodName := ⟨RX1, "isFull", "()Z"⟩
abbrev cX1_append : ByteArray := prog_3_method_3_code
def yX1_append : MethodName := ⟨RX1, "append", "(III)V"⟩
abbrev cX1_dropLast : ByteArray := prog_3_method_4_code
def yX1_dropLast : MethodName := ⟨RX1, "dropLast", "()V"⟩
abbrev cX1_all : ByteArray := prog_3_method_5_code
def yX1_all : MethodName := ⟨RX1, "all", "()I"⟩
abbrev cX1_numbers : ByteArray := prog_3_method_6_code
def yX1_numbers : MethodName := ⟨RX1, "numbers", "(II)I"⟩
def RX2 : String := "TinDucks$Round"
def TX2 : u_T := fun k => match k with
  | 0 => ("TinDucks$Round", "stand", "LTinDucks$Stand;", true)
  | 1 => ("TinDucks$Round", "shots", "LTinDucks$Shots;", true)
  | 2 => ("TinDucks$Round", "kindOf", "[I", true)
  | 3 => ("TinDucks$Round", "pull", "I", false)
  | 4 => ("TinDucks$Round", "flight", "I", false)
  | 5 => ("TinDucks$Round", "course", "LTinDucks$Course;", false)
  | 6 => ("TinDucks$Round", "downBehind", "[I", true)
  | 7 => ("TinDucks$Round", "dentedBehind", "[I", true)
  | 8 => ("TinDucks$Round", "timesHitBehind", "[J", true)
  | 9 => ("TinDucks$Round", "firstHit", "[I", true)
  | 10 => ("TinDucks$Round", "brought", "[I", true)
  | 11 => ("TinDucks$Round", "score", "I", false)
  | 12 => ("TinDucks$Round", "hitting", "I", false)
  | 13 => ("TinDucks$Round", "coming", "[I", true)
  | 14 => ("TinDucks$Round", "downNow", "I", false)
  | 15 => ("TinDucks$Round", "dentedNow", "I", false)
  | _ => ("TinDucks$Round", "timesHitNow", "J", false)
def tyX2 : Nat → FieldType := fun k => match k with
  | 0 => .object "TinDucks$Stand"
  | 1 => .object "TinDucks$Shots"
  | 2 => .array .int
  | 3 => .int
  | 4 => .int
  | 5 => .object "TinDucks$Course"
  | 6 => .array .int
  | 7 => .array .int
  | 8 => .array .long
  | 9 => .array .int
  | 10 => .array .int
  | 11 => .int
  | 12 => .int
  | 13 => .array .int
  | 14 => .int
  | 15 => .int
  | _ => .long
theorem nmX2 : ∀ a, a < 17 → ∀ b, b < 17 → a ≠ b → (TX2 a).2.1 ≠ (TX2 b).2.1 := by decide +kernel
theorem tyX2_ok : ∀ k, k < 17 → parseFieldDescriptor (TX2 k).2.2.1 = some (tyX2 k) := by decide +kernel
abbrev cX2_init : ByteArray := prog_4_method_1_code
def yX2_init : MethodName := ⟨RX2, "<init>", "(LTinDucks$Stand;LTinDucks$Course;)V"⟩
abbrev cX2_takeFrom : ByteArray := prog_4_method_2_code
def yX2_takeFrom : MethodName := ⟨RX2, "takeFrom", "(LTinDucks$Round;)V"⟩
abbrev cX2_comingTick : ByteArray := prog_4_method_3_code
def yX2_comingTick : MethodName := ⟨RX2, "comingTick", "(I)I"⟩
abbrev cX2_conditionBehind : ByteArray := prog_4_method_4_code
def yX2_conditionBehind : MethodName := ⟨RX2, "conditionBehind", "(II)I"⟩
abbrev cX2_hitsBehind : ByteArray := prog_4_method_5_code
def yX2_hitsBehind : MethodName := ⟨RX2, "hitsBehind", "(II)I"⟩
abbrev cX2_tellDuckBehind : ByteArray := prog_4_method_6_code
def yX2_tellDuckBehind : MethodName := ⟨RX2, "tellDuckBehind", "(III)I"⟩
abbrev cX2_tellOutcome : ByteArray := prog_4_method_7_code
def yX2_tellOutcome : MethodName := ⟨RX2, "tellOutcome", "(II)I"⟩
abbrev cX2_tellSum : ByteArray := prog_4_method_8_code
def yX2_tellSum : MethodName := ⟨RX2, "tellSum", "(I)I"⟩
abbrev cX2_play : ByteArray := prog_4_method_9_code
def yX2_play : MethodName := ⟨RX2, "play", "()V"⟩
abbrev cX2_begin : ByteArray := prog_4_method_10_code
def yX2_begin : MethodName := ⟨RX2, "begin", "()V"⟩
abbrev cX2_shoot : ByteArray := prog_4_method_11_code
def yX2_shoot : MethodName := ⟨RX2, "shoot", "(II)V"⟩
abbrev cX2_strike : ByteArray := prog_4_method_12_code
def yX2_strike : MethodName := ⟨RX2, "strike", "(II)V"⟩
def RX3 : String := "TinDucks$Seen"
def TX3 : u_T := fun k => match k with
  | 0 => ("TinDucks$Seen", "tickOf", "[I", true)
  | 1 => ("TinDucks$Seen", "duckOf", "[I", true)
  | 2 => ("TinDucks$Seen", "wasDown", "[I", true)
  | _ => ("TinDucks$Seen", "count", "I", false)
def tyX3 : Nat → FieldType := fun k => match k with
  | 0 => .array .int
  | 1 => .array .int
  | 2 => .array .int
  | _ => .int
theorem nmX3 : ∀ a, a < 4 → ∀ b, b < 4 → a ≠ b → (TX3 a).2.1 ≠ (TX3 b).2.1 := by decide +kernel
theorem tyX3_ok : ∀ k, k < 4 → parseFieldDescriptor (TX3 k).2.2.1 = some (tyX3 k) := by decide +kernel
abbrev cX3_init : ByteArray := prog_5_method_1_code
def yX3_init : MethodName := ⟨RX3, "<init>", "()V"⟩
abbrev cX3_isFull : ByteArray := prog_5_method_2_code
def yX3_isFull : MethodName := ⟨RX3, "isFull", "()Z"⟩
abbrev cX3_append : ByteArray := prog_5_method_3_code
def yX3_append : MethodName := ⟨RX3, "append", "(III)V"⟩
abbrev cX3_fits : ByteArray := prog_5_method_4_code
def yX3_fits : MethodName := ⟨RX3, "fits", "([II)Z"⟩
def RX4 : String := "TinDucks$Sheet"
def TX4 : u_T := fun k => match k with
  | 0 => ("TinDucks$Sheet", "items", "[I", true)
  | 1 => ("TinDucks$Sheet", "form", "I", false)
  | 2 => ("TinDucks$Sheet", "length", "I", false)
  | _ => ("TinDucks$Sheet", "lost", "Z", false)
def tyX4 : Nat → FieldType := fun k => match k with
  | 0 => .array .int
  | 1 => .int
  | 2 => .int
  | _ => .boolean
theorem nmX4 : ∀ a, a < 4 → ∀ b, b < 4 → a ≠ b → (TX4 a).2.1 ≠ (TX4 b).2.1 := by decide +kernel
theorem tyX4_ok : ∀ k, k < 4 → parseFieldDescriptor (TX4 k).2.2.1 = some (tyX4 k) := by decide +kernel
abbrev cX4_init : ByteArray := prog_6_method_1_code
def yX4_init : MethodName := ⟨RX4, "<init>", "()V"⟩
abbrev cX4_begin : ByteArray := prog_6_method_2_code
def yX4_begin : MethodName := ⟨RX4, "begin", "(II)V"⟩
abbrev cX4_has : ByteArray := prog_6_method_3_code
def yX4_has : MethodName := ⟨RX4, "has", "(II)Z"⟩
abbrev cX4_put : ByteArray := prog_6_method_4_code
def yX4_put : MethodName := ⟨RX4, "put", "(II)V"⟩
def RX5 : String := "TinDucks$Shots"
def TX5 : u_T := fun k => match k with
  | 0 => ("TinDucks$Shots", "tick", "[I", true)
  | 1 => ("TinDucks$Shots", "chain", "[I", true)
  | 2 => ("TinDucks$Shots", "column", "[I", true)
  | _ => ("TinDucks$Shots", "count", "I", false)
def tyX5 : Nat → FieldType := fun k => match k with
  | 0 => .array .int
  | 1 => .array .int
  | 2 => .array .int
  | _ => .int
theorem nmX5 : ∀ a, a < 4 → ∀ b, b < 4 → a ≠ b → (TX5 a).2.1 ≠ (TX5 b).2.1 := by decide +kernel
theorem tyX5_ok : ∀ k, k < 4 → parseFieldDescriptor (TX5 k).2.2.1 = some (tyX5 k) := by decide +kernel
abbrev cX5_init : ByteArray := prog_7_method_1_code
def yX5_init : MethodName := ⟨RX5, "<init>", "()V"⟩
abbrev cX5_takeText : ByteArray := prog_7_method_2_code
def yX5_takeText : MethodName := ⟨RX5, "takeText", "(LTinDucks$Text;)V"⟩
abbrev cX5_takeFrom : ByteArray := prog_7_method_3_code
def yX5_takeFrom : MethodName := ⟨RX5, "takeFrom", "(LTinDucks$Shots;)V"⟩
abbrev cX5_tellShot : ByteArray := prog_7_method_4_code
def yX5_tellShot : MethodName := ⟨RX5, "tellShot", "(II)I"⟩
abbrev cX5_draw : ByteArray := prog_7_method_5_code
def yX5_draw : MethodName := ⟨RX5, "draw", "(II)V"⟩
abbrev cX5_nextSeed : ByteArray := prog_7_method_6_code
def yX5_nextSeed : MethodName := ⟨RX5, "nextSeed", "(I)I"⟩
def RX6 : String := "TinDucks$Stand"
def TX6 : u_T := fun k => match k with
  | 0 => ("TinDucks$Stand", "speed", "[I", true)
  | 1 => ("TinDucks$Stand", "chainOf", "[I", true)
  | 2 => ("TinDucks$Stand", "placeOf", "[I", true)
  | 3 => ("TinDucks$Stand", "kindOf", "[I", true)
  | 4 => ("TinDucks$Stand", "worthOf", "[I", true)
  | 5 => ("TinDucks$Stand", "ducks", "I", false)
  | 6 => ("TinDucks$Stand", "duckFrom", "[I", true)
  | _ => ("TinDucks$Stand", "hidden", "[I", true)
def tyX6 : Nat → FieldType := fun k => match k with
  | 0 => .array .int
  | 1 => .array .int
  | 2 => .array .int
  | 3 => .array .int
  | 4 => .array .int
  | 5 => .int
  | 6 => .array .int
  | _ => .array .int
theorem nmX6 : ∀ a, a < 8 → ∀ b, b < 8 → a ≠ b → (TX6 a).2.1 ≠ (TX6 b).2.1 := by decide +kernel
theorem tyX6_ok : ∀ k, k < 8 → parseFieldDescriptor (TX6 k).2.2.1 = some (tyX6 k) := by decide +kernel
abbrev cX6_init : ByteArray := prog_8_method_1_code
def yX6_init : MethodName := ⟨RX6, "<init>", "()V"⟩
abbrev cX6_arrange : ByteArray := prog_8_method_2_code
def yX6_arrange : MethodName := ⟨RX6, "arrange", "(LTinDucks$Text;LTinDucks$Text;)V"⟩
abbrev cX6_tellDuck : ByteArray := prog_8_method_3_code
def yX6_tellDuck : MethodName := ⟨RX6, "tellDuck", "(II)I"⟩
abbrev cX6_speedTold : ByteArray := prog_8_method_4_code
def yX6_speedTold : MethodName := ⟨RX6, "speedTold", "(LTinDucks$Text;I)I"⟩
abbrev cX6_noteHidden : ByteArray := prog_8_method_5_code
def yX6_noteHidden : MethodName := ⟨RX6, "noteHidden", "(I)V"⟩
def RX7 : String := "TinDucks$Text"
def TX7 : u_T := fun k => match k with
  | 0 => ("TinDucks$Text", "ofWhat", "I", true)
  | 1 => ("TinDucks$Text", "width", "I", true)
  | 2 => ("TinDucks$Text", "most", "I", true)
  | 3 => ("TinDucks$Text", "bytes", "[I", true)
  | 4 => ("TinDucks$Text", "values", "[I", true)
  | 5 => ("TinDucks$Text", "length", "I", false)
  | 6 => ("TinDucks$Text", "items", "I", false)
  | _ => ("TinDucks$Text", "faultPlace", "I", false)
def tyX7 : Nat → FieldType := fun k => match k with
  | 0 => .int
  | 1 => .int
  | 2 => .int
  | 3 => .array .int
  | 4 => .array .int
  | 5 => .int
  | 6 => .int
  | _ => .int
theorem nmX7 : ∀ a, a < 8 → ∀ b, b < 8 → a ≠ b → (TX7 a).2.1 ≠ (TX7 b).2.1 := by decide +kernel
theorem tyX7_ok : ∀ k, k < 8 → parseFieldDescriptor (TX7 k).2.2.1 = some (tyX7 k) := by decide +kernel
abbrev cX7_init : ByteArray := prog_9_method_1_code
def yX7_init : MethodName := ⟨RX7, "<init>", "(IIII)V"⟩
abbrev cX7_isFull : ByteArray := prog_9_method_2_code
def yX7_isFull : MethodName := ⟨RX7, "isFull", "()Z"⟩
abbrev cX7_append : ByteArray := prog_9_method_3_code
def yX7_append : MethodName := ⟨RX7, "append", "(I)V"⟩
abbrev cX7_value : ByteArray := prog_9_method_4_code
def yX7_value : MethodName := ⟨RX7, "value", "(II)I"⟩
abbrev cX7_examine : ByteArray := prog_9_method_5_code
def yX7_examine : MethodName := ⟨RX7, "examine", "()V"⟩
abbrev cX7_firstFault : ByteArray := prog_9_method_6_code
def yX7_firstFault : MethodName := ⟨RX7, "firstFault", "()I"⟩
abbrev cX7_goesOn : ByteArray := prog_9_method_7_code
def yX7_goesOn : MethodName := ⟨RX7, "goesOn", "(I)Z"⟩
abbrev cX7_isTaken : ByteArray := prog_9_method_8_code
def yX7_isTaken : MethodName := ⟨RX7, "isTaken", "(I)Z"⟩
abbrev cX7_signs : ByteArray := prog_9_method_9_code
def yX7_signs : MethodName := ⟨RX7, "signs", "(I)Ljava/lang/String;"⟩
def RX8 : String := "TinDucks"
def TX8 : u_T := fun k => match k with
  | 0 => ("TinDucks", "texts", "[LTinDucks$Text;", true)
  | 1 => ("TinDucks", "stand", "LTinDucks$Stand;", true)
  | 2 => ("TinDucks", "events", "LTinDucks$Events;", true)
  | 3 => ("TinDucks", "toldCourse", "LTinDucks$Course;", true)
  | 4 => ("TinDucks", "otherCourse", "LTinDucks$Course;", true)
  | 5 => ("TinDucks", "told", "LTinDucks$Round;", true)
  | 6 => ("TinDucks", "tried", "LTinDucks$Round;", true)
  | 7 => ("TinDucks", "seenSoFar", "LTinDucks$Seen;", true)
  | 8 => ("TinDucks", "sheets", "[LTinDucks$Sheet;", true)
  | 9 => ("TinDucks", "settled", "Z", false)
  | 10 => ("TinDucks", "chancesKnown", "Z", false)
  | 11 => ("TinDucks", "hitChoices", "[I", true)
  | 12 => ("TinDucks", "downByPull", "[I", true)
  | 13 => ("TinDucks", "which", "I", false)
  | 14 => ("TinDucks", "much", "I", false)
  | _ => ("TinDucks", "latestFinding", "I", false)
def tyX8 : Nat → FieldType := fun k => match k with
  | 0 => .array (.object "TinDucks$Text")
  | 1 => .object "TinDucks$Stand"
  | 2 => .object "TinDucks$Events"
  | 3 => .object "TinDucks$Course"
  | 4 => .object "TinDucks$Course"
  | 5 => .object "TinDucks$Round"
  | 6 => .object "TinDucks$Round"
  | 7 => .object "TinDucks$Seen"
  | 8 => .array (.object "TinDucks$Sheet")
  | 9 => .boolean
  | 10 => .boolean
  | 11 => .array .int
  | 12 => .array .int
  | 13 => .int
  | 14 => .int
  | _ => .int
theorem nmX8 : ∀ a, a < 16 → ∀ b, b < 16 → a ≠ b → (TX8 a).2.1 ≠ (TX8 b).2.1 := by decide +kernel
theorem tyX8_ok : ∀ k, k < 16 → parseFieldDescriptor (TX8 k).2.2.1 = some (tyX8 k) := by decide +kernel
abbrev cX8_init : ByteArray := prog_1_method_1_code
def yX8_init : MethodName := ⟨RX8, "<init>", "()V"⟩
abbrev cX8_type : ByteArray := prog_1_method_2_code
def yX8_type : MethodName := ⟨RX8, "type", "(II)I"⟩
abbrev cX8_wipe : ByteArray := prog_1_method_3_code
def yX8_wipe : MethodName := ⟨RX8, "wipe", "(I)I"⟩
abbrev cX8_undo : ByteArray := prog_1_method_4_code
def yX8_undo : MethodName := ⟨RX8, "undo", "(I)I"⟩
abbrev cX8_fault : ByteArray := prog_1_method_5_code
def yX8_fault : MethodName := ⟨RX8, "fault", "(I)I"⟩
abbrev cX8_chain : ByteArray := prog_1_method_6_code
def yX8_chain : MethodName := ⟨RX8, "chain", "(I)I"⟩
abbrev cX8_duck : ByteArray := prog_1_method_7_code
def yX8_duck : MethodName := ⟨RX8, "duck", "(II)I"⟩
abbrev cX8_shot : ByteArray := prog_1_method_8_code
def yX8_shot : MethodName := ⟨RX8, "shot", "(II)I"⟩
abbrev cX8_rifle : ByteArray := prog_1_method_9_code
def yX8_rifle : MethodName := ⟨RX8, "rifle", "(II)I"⟩
abbrev cX8_event : ByteArray := prog_1_method_10_code
def yX8_event : MethodName := ⟨RX8, "event", "(III)I"⟩
abbrev cX8_back : ByteArray := prog_1_method_11_code
def yX8_back : MethodName := ⟨RX8, "back", "()I"⟩
abbrev cX8_read : ByteArray := prog_1_method_12_code
def yX8_read : MethodName := ⟨RX8, "read", "(I)I"⟩
abbrev cX8_at : ByteArray := prog_1_method_13_code
def yX8_at : MethodName := ⟨RX8, "at", "(III)I"⟩
abbrev cX8_sees : ByteArray := prog_1_method_14_code
def yX8_sees : MethodName := ⟨RX8, "sees", "(III)I"⟩
abbrev cX8_down : ByteArray := prog_1_method_15_code
def yX8_down : MethodName := ⟨RX8, "down", "(I)I"⟩
abbrev cX8_hits : ByteArray := prog_1_method_16_code
def yX8_hits : MethodName := ⟨RX8, "hits", "(II)I"⟩
abbrev cX8_sum : ByteArray := prog_1_method_17_code
def yX8_sum : MethodName := ⟨RX8, "sum", "(I)I"⟩
abbrev cX8_run : ByteArray := prog_1_method_18_code
def yX8_run : MethodName := ⟨RX8, "run", "(I)I"⟩
abbrev cX8_easy : ByteArray := prog_1_method_19_code
def yX8_easy : MethodName := ⟨RX8, "easy", "()I"⟩
abbrev cX8_safe : ByteArray := prog_1_method_20_code
def yX8_safe : MethodName := ⟨RX8, "safe", "()I"⟩
abbrev cX8_aim : ByteArray := prog_1_method_21_code
def yX8_aim : MethodName := ⟨RX8, "aim", "(II)I"⟩
abbrev cX8_fire : ByteArray := prog_1_method_22_code
def yX8_fire : MethodName := ⟨RX8, "fire", "(II)I"⟩
abbrev cX8_mend : ByteArray := prog_1_method_23_code
def yX8_mend : MethodName := ⟨RX8, "mend", "(I)I"⟩
abbrev cX8_spare : ByteArray := prog_1_method_24_code
def yX8_spare : MethodName := ⟨RX8, "spare", "(I)I"⟩
abbrev cX8_seen : ByteArray := prog_1_method_25_code
def yX8_seen : MethodName := ⟨RX8, "seen", "(III)I"⟩
abbrev cX8_forget : ByteArray := prog_1_method_26_code
def yX8_forget : MethodName := ⟨RX8, "forget", "()I"⟩
abbrev cX8_might : ByteArray := prog_1_method_27_code
def yX8_might : MethodName := ⟨RX8, "might", "(I)I"⟩
abbrev cX8_kind : ByteArray := prog_1_method_28_code
def yX8_kind : MethodName := ⟨RX8, "kind", "(I)I"⟩
abbrev cX8_ask : ByteArray := prog_1_method_29_code
def yX8_ask : MethodName := ⟨RX8, "ask", "()I"⟩
abbrev cX8_chance : ByteArray := prog_1_method_30_code
def yX8_chance : MethodName := ⟨RX8, "chance", "(III)J"⟩
abbrev cX8_fairs : ByteArray := prog_1_method_31_code
def yX8_fairs : MethodName := ⟨RX8, "fairs", "(III)I"⟩
abbrev cX8_sheet : ByteArray := prog_1_method_32_code
def yX8_sheet : MethodName := ⟨RX8, "sheet", "(III)I"⟩
abbrev cX8_lose : ByteArray := prog_1_method_33_code
def yX8_lose : MethodName := ⟨RX8, "lose", "(I)I"⟩
abbrev cX8_lay : ByteArray := prog_1_method_34_code
def yX8_lay : MethodName := ⟨RX8, "lay", "(IIII)I"⟩
abbrev cX8_get : ByteArray := prog_1_method_35_code
def yX8_get : MethodName := ⟨RX8, "get", "(III)I"⟩
abbrev cX8_copy : ByteArray := prog_1_method_36_code
def yX8_copy : MethodName := ⟨RX8, "copy", "(IIIII)I"⟩
abbrev cX8_write : ByteArray := prog_1_method_37_code
def yX8_write : MethodName := ⟨RX8, "write", "(II)I"⟩
abbrev cX8_count : ByteArray := prog_1_method_38_code
def yX8_count : MethodName := ⟨RX8, "count", "(I)I"⟩
abbrev cX8_digest : ByteArray := prog_1_method_39_code
def yX8_digest : MethodName := ⟨RX8, "digest", "()J"⟩
abbrev cX8_mix : ByteArray := prog_1_method_40_code
def yX8_mix : MethodName := ⟨RX8, "mix", "(JJ)J"⟩
abbrev cX8_mixFound : ByteArray := prog_1_method_41_code
def yX8_mixFound : MethodName := ⟨RX8, "mixFound", "(J)J"⟩
abbrev cX8_digestTold : ByteArray := prog_1_method_42_code
def yX8_digestTold : MethodName := ⟨RX8, "digestTold", "(J)J"⟩
abbrev cX8_digestDuck : ByteArray := prog_1_method_43_code
def yX8_digestDuck : MethodName := ⟨RX8, "digestDuck", "(JI)J"⟩
abbrev cX8_digestShot : ByteArray := prog_1_method_44_code
def yX8_digestShot : MethodName := ⟨RX8, "digestShot", "(JI)J"⟩
abbrev cX8_digestSums : ByteArray := prog_1_method_45_code
def yX8_digestSums : MethodName := ⟨RX8, "digestSums", "(J)J"⟩
abbrev cX8_digestPlans : ByteArray := prog_1_method_46_code
def yX8_digestPlans : MethodName := ⟨RX8, "digestPlans", "(J)J"⟩
abbrev cX8_within : ByteArray := prog_1_method_47_code
def yX8_within : MethodName := ⟨RX8, "within", "(II)Z"⟩
abbrev cX8_isEvent : ByteArray := prog_1_method_48_code
def yX8_isEvent : MethodName := ⟨RX8, "isEvent", "(III)Z"⟩
abbrev cX8_isDuck : ByteArray := prog_1_method_49_code
def yX8_isDuck : MethodName := ⟨RX8, "isDuck", "(I)Z"⟩
abbrev cX8_isShot : ByteArray := prog_1_method_50_code
def yX8_isShot : MethodName := ⟨RX8, "isShot", "(I)Z"⟩
abbrev cX8_finding : ByteArray := prog_1_method_51_code
def yX8_finding : MethodName := ⟨RX8, "finding", "(I)I"⟩
abbrev cX8_refuseSheet : ByteArray := prog_1_method_52_code
def yX8_refuseSheet : MethodName := ⟨RX8, "refuseSheet", "(I)I"⟩
abbrev cX8_refuseItem : ByteArray := prog_1_method_53_code
def yX8_refuseItem : MethodName := ⟨RX8, "refuseItem", "(III)I"⟩
abbrev cX8_settle : ByteArray := prog_1_method_54_code
def yX8_settle : MethodName := ⟨RX8, "settle", "()V"⟩
abbrev cX8_offer : ByteArray := prog_1_method_55_code
def yX8_offer : MethodName := ⟨RX8, "offer", "(II)V"⟩
abbrev cX8_tellCount : ByteArray := prog_1_method_56_code
def yX8_tellCount : MethodName := ⟨RX8, "tellCount", "(I)I"⟩
abbrev cX8_easiestDuck : ByteArray := prog_1_method_57_code
def yX8_easiestDuck : MethodName := ⟨RX8, "easiestDuck", "()I"⟩
abbrev cX8_safeDucks : ByteArray := prog_1_method_58_code
def yX8_safeDucks : MethodName := ⟨RX8, "safeDucks", "()I"⟩
abbrev cX8_seekRun : ByteArray := prog_1_method_59_code
def yX8_seekRun : MethodName := ⟨RX8, "seekRun", "()V"⟩
abbrev cX8_seekAim : ByteArray := prog_1_method_60_code
def yX8_seekAim : MethodName := ⟨RX8, "seekAim", "(I)V"⟩
abbrev cX8_seekFire : ByteArray := prog_1_method_61_code
def yX8_seekFire : MethodName := ⟨RX8, "seekFire", "(I)V"⟩
abbrev cX8_seekMend : ByteArray := prog_1_method_62_code
def yX8_seekMend : MethodName := ⟨RX8, "seekMend", "()V"⟩
abbrev cX8_tryEvents : ByteArray := prog_1_method_63_code
def yX8_tryEvents : MethodName := ⟨RX8, "tryEvents", "(I)V"⟩
abbrev cX8_allHitWithout : ByteArray := prog_1_method_64_code
def yX8_allHitWithout : MethodName := ⟨RX8, "allHitWithout", "(I)Z"⟩
abbrev cX8_eventsToSpare : ByteArray := prog_1_method_65_code
def yX8_eventsToSpare : MethodName := ⟨RX8, "eventsToSpare", "()I"⟩
abbrev cX8_sparedOf : ByteArray := prog_1_method_66_code
def yX8_sparedOf : MethodName := ⟨RX8, "sparedOf", "(II)I"⟩
abbrev cX8_bitIfSeen : ByteArray := prog_1_method_67_code
def yX8_bitIfSeen : MethodName := ⟨RX8, "bitIfSeen", "(I)I"⟩
abbrev cX8_eventsThatNeverWere : ByteArray := prog_1_method_68_code
def yX8_eventsThatNeverWere : MethodName := ⟨RX8, "eventsThatNeverWere", "()I"⟩
abbrev cX8_pullsThatMightBe : ByteArray := prog_1_method_69_code
def yX8_pullsThatMightBe : MethodName := ⟨RX8, "pullsThatMightBe", "()I"⟩
abbrev cX8_kindsThatMightBe : ByteArray := prog_1_method_70_code
def yX8_kindsThatMightBe : MethodName := ⟨RX8, "kindsThatMightBe", "(I)I"⟩
abbrev cX8_tickToAsk : ByteArray := prog_1_method_71_code
def yX8_tickToAsk : MethodName := ⟨RX8, "tickToAsk", "()I"⟩
abbrev cX8_greatestLikeGroup : ByteArray := prog_1_method_72_code
def yX8_greatestLikeGroup : MethodName := ⟨RX8, "greatestLikeGroup", "(II)I"⟩
abbrev cX8_learnChances : ByteArray := prog_1_method_73_code
def yX8_learnChances : MethodName := ⟨RX8, "learnChances", "()V"⟩
abbrev cX8_chanceLearned : ByteArray := prog_1_method_74_code
def yX8_chanceLearned : MethodName := ⟨RX8, "chanceLearned", "(III)J"⟩
abbrev cX8_weightOfHits : ByteArray := prog_1_method_75_code
def yX8_weightOfHits : MethodName := ⟨RX8, "weightOfHits", "(II)J"⟩
abbrev cX8_power : ByteArray := prog_1_method_76_code
def yX8_power : MethodName := ⟨RX8, "power", "(II)J"⟩
abbrev cX8_commonDivisor : ByteArray := prog_1_method_77_code
def yX8_commonDivisor : MethodName := ⟨RX8, "commonDivisor", "(JJ)J"⟩
abbrev cX8_tryFair : ByteArray := prog_1_method_78_code
def yX8_tryFair : MethodName := ⟨RX8, "tryFair", "(II)V"⟩
abbrev cX8_isSet : ByteArray := prog_1_method_79_code
def yX8_isSet : MethodName := ⟨RX8, "isSet", "(II)Z"⟩
def RX9 : String := "TinDucksModel"
def TX9 : u_T := fun k => match k with
  | 0 => ("TinDucksModel", "forms", "[I", true)
  | 1 => ("TinDucksModel", "sizes", "[I", true)
  | 2 => ("TinDucksModel", "items", "[I", true)
  | 3 => ("TinDucksModel", "moved", "[I", true)
  | 4 => ("TinDucksModel", "latest", "I", false)
  | 5 => ("TinDucksModel", "bytes", "[I", true)
  | 6 => ("TinDucksModel", "typed", "[I", true)
  | 7 => ("TinDucksModel", "chain", "[I", true)
  | 8 => ("TinDucksModel", "ducks", "I", false)
  | 9 => ("TinDucksModel", "duck", "[I", true)
  | 10 => ("TinDucksModel", "shots", "I", false)
  | 11 => ("TinDucksModel", "shot", "[I", true)
  | 12 => ("TinDucksModel", "rifles", "[I", true)
  | 13 => ("TinDucksModel", "events", "I", false)
  | 14 => ("TinDucksModel", "event", "[I", true)
  | 15 => ("TinDucksModel", "gone", "I", false)
  | 16 => ("TinDucksModel", "place", "[I", true)
  | 17 => ("TinDucksModel", "state", "[I", true)
  | 18 => ("TinDucksModel", "hit", "[I", true)
  | 19 => ("TinDucksModel", "first", "[I", true)
  | 20 => ("TinDucksModel", "brings", "[I", true)
  | 21 => ("TinDucksModel", "placeBy", "[I", true)
  | 22 => ("TinDucksModel", "stateBy", "[I", true)
  | 23 => ("TinDucksModel", "hitBy", "[I", true)
  | 24 => ("TinDucksModel", "sights", "I", false)
  | 25 => ("TinDucksModel", "sight", "[I", true)
  | 26 => ("TinDucksModel", "downs", "[I", true)
  | _ => ("TinDucksModel", "drawn", "I", false)
def tyX9 : Nat → FieldType := fun k => match k with
  | 0 => .array .int
  | 1 => .array .int
  | 2 => .array .int
  | 3 => .array .int
  | 4 => .int
  | 5 => .array .int
  | 6 => .array .int
  | 7 => .array .int
  | 8 => .int
  | 9 => .array .int
  | 10 => .int
  | 11 => .array .int
  | 12 => .array .int
  | 13 => .int
  | 14 => .array .int
  | 15 => .int
  | 16 => .array .int
  | 17 => .array .int
  | 18 => .array .int
  | 19 => .array .int
  | 20 => .array .int
  | 21 => .array .int
  | 22 => .array .int
  | 23 => .array .int
  | 24 => .int
  | 25 => .array .int
  | 26 => .array .int
  | _ => .int
theorem nmX9 : ∀ a, a < 28 → ∀ b, b < 28 → a ≠ b → (TX9 a).2.1 ≠ (TX9 b).2.1 := by decide +kernel
theorem tyX9_ok : ∀ k, k < 28 → parseFieldDescriptor (TX9 k).2.2.1 = some (tyX9 k) := by decide +kernel
abbrev cX9_init : ByteArray := prog_11_method_1_code
def yX9_init : MethodName := ⟨RX9, "<init>", "()V"⟩
abbrev cX9_in : ByteArray := prog_11_method_3_code
def yX9_in : MethodName := ⟨RX9, "in", "(JJJ)Z"⟩
abbrev cX9_no : ByteArray := prog_11_method_4_code
def yX9_no : MethodName := ⟨RX9, "no", "(I)J"⟩
abbrev cX9_isTwo : ByteArray := prog_11_method_5_code
def yX9_isTwo : MethodName := ⟨RX9, "isTwo", "(I)Z"⟩
abbrev cX9_isIn : ByteArray := prog_11_method_6_code
def yX9_isIn : MethodName := ⟨RX9, "isIn", "(II)Z"⟩
abbrev cX9_lesser : ByteArray := prog_11_method_7_code
def yX9_lesser : MethodName := ⟨RX9, "lesser", "(II)I"⟩
abbrev cX9_greater : ByteArray := prog_11_method_8_code
def yX9_greater : MethodName := ⟨RX9, "greater", "(II)I"⟩
abbrev cX9_part : ByteArray := prog_11_method_9_code
def yX9_part : MethodName := ⟨RX9, "part", "(JJI)J"⟩
abbrev cX9_finds : ByteArray := prog_11_method_10_code
def yX9_finds : MethodName := ⟨RX9, "finds", "(I)I"⟩
abbrev cX9_isSheet : ByteArray := prog_11_method_11_code
def yX9_isSheet : MethodName := ⟨RX9, "isSheet", "(I)Z"⟩
abbrev cX9_sheet : ByteArray := prog_11_method_12_code
def yX9_sheet : MethodName := ⟨RX9, "sheet", "(III)I"⟩
abbrev cX9_lose : ByteArray := prog_11_method_13_code
def yX9_lose : MethodName := ⟨RX9, "lose", "(I)I"⟩
abbrev cX9_lacks : ByteArray := prog_11_method_14_code
def yX9_lacks : MethodName := ⟨RX9, "lacks", "(III)I"⟩
abbrev cX9_cut : ByteArray := prog_11_method_15_code
def yX9_cut : MethodName := ⟨RX9, "cut", "(II)I"⟩
abbrev cX9_lay : ByteArray := prog_11_method_16_code
def yX9_lay : MethodName := ⟨RX9, "lay", "(IIII)I"⟩
abbrev cX9_get : ByteArray := prog_11_method_17_code
def yX9_get : MethodName := ⟨RX9, "get", "(III)I"⟩
abbrev cX9_copy : ByteArray := prog_11_method_18_code
def yX9_copy : MethodName := ⟨RX9, "copy", "(IIIII)I"⟩
abbrev cX9_isText : ByteArray := prog_11_method_19_code
def yX9_isText : MethodName := ⟨RX9, "isText", "(I)Z"⟩
abbrev cX9_type : ByteArray := prog_11_method_20_code
def yX9_type : MethodName := ⟨RX9, "type", "(II)I"⟩
abbrev cX9_wipe : ByteArray := prog_11_method_21_code
def yX9_wipe : MethodName := ⟨RX9, "wipe", "(I)I"⟩
abbrev cX9_undo : ByteArray := prog_11_method_22_code
def yX9_undo : MethodName := ⟨RX9, "undo", "(I)I"⟩
abbrev cX9_figureOf : ByteArray := prog_11_method_23_code
def yX9_figureOf : MethodName := ⟨RX9, "figureOf", "(III)I"⟩
abbrev cX9_letterOf : ByteArray := prog_11_method_24_code
def yX9_letterOf : MethodName := ⟨RX9, "letterOf", "(II)I"⟩
abbrev cX9_between : ByteArray := prog_11_method_25_code
def yX9_between : MethodName := ⟨RX9, "between", "(I)I"⟩
abbrev cX9_usual : ByteArray := prog_11_method_26_code
def yX9_usual : MethodName := ⟨RX9, "usual", "()V"⟩
abbrev cX9_readsChains : ByteArray := prog_11_method_27_code
def yX9_readsChains : MethodName := ⟨RX9, "readsChains", "()I"⟩
abbrev cX9_duckOf : ByteArray := prog_11_method_28_code
def yX9_duckOf : MethodName := ⟨RX9, "duckOf", "(II)I"⟩
abbrev cX9_isTaken : ByteArray := prog_11_method_29_code
def yX9_isTaken : MethodName := ⟨RX9, "isTaken", "(I)Z"⟩
abbrev cX9_readsDucks : ByteArray := prog_11_method_30_code
def yX9_readsDucks : MethodName := ⟨RX9, "readsDucks", "()I"⟩
abbrev cX9_shotOf : ByteArray := prog_11_method_31_code
def yX9_shotOf : MethodName := ⟨RX9, "shotOf", "(II)I"⟩
abbrev cX9_readsShots : ByteArray := prog_11_method_32_code
def yX9_readsShots : MethodName := ⟨RX9, "readsShots", "()I"⟩
abbrev cX9_readsText : ByteArray := prog_11_method_33_code
def yX9_readsText : MethodName := ⟨RX9, "readsText", "(I)I"⟩
abbrev cX9_fault : ByteArray := prog_11_method_34_code
def yX9_fault : MethodName := ⟨RX9, "fault", "(I)I"⟩
abbrev cX9_isChain : ByteArray := prog_11_method_35_code
def yX9_isChain : MethodName := ⟨RX9, "isChain", "(I)Z"⟩
abbrev cX9_isTick : ByteArray := prog_11_method_36_code
def yX9_isTick : MethodName := ⟨RX9, "isTick", "(I)Z"⟩
abbrev cX9_isDuck : ByteArray := prog_11_method_37_code
def yX9_isDuck : MethodName := ⟨RX9, "isDuck", "(I)Z"⟩
abbrev cX9_isShot : ByteArray := prog_11_method_38_code
def yX9_isShot : MethodName := ⟨RX9, "isShot", "(I)Z"⟩
abbrev cX9_chain : ByteArray := prog_11_method_39_code
def yX9_chain : MethodName := ⟨RX9, "chain", "(I)I"⟩
abbrev cX9_duck : ByteArray := prog_11_method_40_code
def yX9_duck : MethodName := ⟨RX9, "duck", "(II)I"⟩
abbrev cX9_shot : ByteArray := prog_11_method_41_code
def yX9_shot : MethodName := ⟨RX9, "shot", "(II)I"⟩
abbrev cX9_rifle : ByteArray := prog_11_method_42_code
def yX9_rifle : MethodName := ⟨RX9, "rifle", "(II)I"⟩
abbrev cX9_event : ByteArray := prog_11_method_43_code
def yX9_event : MethodName := ⟨RX9, "event", "(III)I"⟩
abbrev cX9_back : ByteArray := prog_11_method_44_code
def yX9_back : MethodName := ⟨RX9, "back", "()I"⟩
abbrev cX9_read : ByteArray := prog_11_method_45_code
def yX9_read : MethodName := ⟨RX9, "read", "(I)I"⟩
abbrev cX9_toldIn : ByteArray := prog_11_method_46_code
def yX9_toldIn : MethodName := ⟨RX9, "toldIn", "(II)I"⟩
abbrev cX9_turns : ByteArray := prog_11_method_47_code
def yX9_turns : MethodName := ⟨RX9, "turns", "(I)V"⟩
abbrev cX9_target : ByteArray := prog_11_method_48_code
def yX9_target : MethodName := ⟨RX9, "target", "(II)I"⟩
abbrev cX9_comes : ByteArray := prog_11_method_49_code
def yX9_comes : MethodName := ⟨RX9, "comes", "(II)V"⟩
abbrev cX9_passes : ByteArray := prog_11_method_50_code
def yX9_passes : MethodName := ⟨RX9, "passes", "(I)V"⟩
abbrev cX9_lives : ByteArray := prog_11_method_51_code
def yX9_lives : MethodName := ⟨RX9, "lives", "()V"⟩
abbrev cX9_find : ByteArray := prog_11_method_52_code
def yX9_find : MethodName := ⟨RX9, "find", "()V"⟩
abbrev cX9_atBy : ByteArray := prog_11_method_53_code
def yX9_atBy : MethodName := ⟨RX9, "atBy", "(III)I"⟩
abbrev cX9_at : ByteArray := prog_11_method_54_code
def yX9_at : MethodName := ⟨RX9, "at", "(III)I"⟩
abbrev cX9_seesBy : ByteArray := prog_11_method_55_code
def yX9_seesBy : MethodName := ⟨RX9, "seesBy", "(III)I"⟩
abbrev cX9_sees : ByteArray := prog_11_method_56_code
def yX9_sees : MethodName := ⟨RX9, "sees", "(III)I"⟩
abbrev cX9_downBits : ByteArray := prog_11_method_57_code
def yX9_downBits : MethodName := ⟨RX9, "downBits", "(I)I"⟩
abbrev cX9_downBy : ByteArray := prog_11_method_58_code
def yX9_downBy : MethodName := ⟨RX9, "downBy", "(I)I"⟩
abbrev cX9_down : ByteArray := prog_11_method_59_code
def yX9_down : MethodName := ⟨RX9, "down", "(I)I"⟩
abbrev cX9_hitsBy : ByteArray := prog_11_method_60_code
def yX9_hitsBy : MethodName := ⟨RX9, "hitsBy", "(II)I"⟩
abbrev cX9_hits : ByteArray := prog_11_method_61_code
def yX9_hits : MethodName := ⟨RX9, "hits", "(II)I"⟩
abbrev cX9_score : ByteArray := prog_11_method_62_code
def yX9_score : MethodName := ⟨RX9, "score", "()I"⟩
abbrev cX9_manyHit : ByteArray := prog_11_method_63_code
def yX9_manyHit : MethodName := ⟨RX9, "manyHit", "()I"⟩
abbrev cX9_sumBy : ByteArray := prog_11_method_64_code
def yX9_sumBy : MethodName := ⟨RX9, "sumBy", "(I)I"⟩
abbrev cX9_sum : ByteArray := prog_11_method_65_code
def yX9_sum : MethodName := ⟨RX9, "sum", "(I)I"⟩
abbrev cX9_runBy : ByteArray := prog_11_method_66_code
def yX9_runBy : MethodName := ⟨RX9, "runBy", "(I)I"⟩
abbrev cX9_run : ByteArray := prog_11_method_67_code
def yX9_run : MethodName := ⟨RX9, "run", "(I)I"⟩
abbrev cX9_easyNow : ByteArray := prog_11_method_68_code
def yX9_easyNow : MethodName := ⟨RX9, "easyNow", "()I"⟩
abbrev cX9_easy : ByteArray := prog_11_method_69_code
def yX9_easy : MethodName := ⟨RX9, "easy", "()I"⟩
abbrev cX9_safeNow : ByteArray := prog_11_method_70_code
def yX9_safeNow : MethodName := ⟨RX9, "safeNow", "()I"⟩
abbrev cX9_safe : ByteArray := prog_11_method_71_code
def yX9_safe : MethodName := ⟨RX9, "safe", "()I"⟩
abbrev cX9_shotBetter : ByteArray := prog_11_method_72_code
def yX9_shotBetter : MethodName := ⟨RX9, "shotBetter", "(III)I"⟩
abbrev cX9_aim : ByteArray := prog_11_method_73_code
def yX9_aim : MethodName := ⟨RX9, "aim", "(II)I"⟩
abbrev cX9_fire : ByteArray := prog_11_method_74_code
def yX9_fire : MethodName := ⟨RX9, "fire", "(II)I"⟩
abbrev cX9_mendBy : ByteArray := prog_11_method_75_code
def yX9_mendBy : MethodName := ⟨RX9, "mendBy", "(I)I"⟩
abbrev cX9_mend : ByteArray := prog_11_method_76_code
def yX9_mend : MethodName := ⟨RX9, "mend", "(I)I"⟩
abbrev cX9_isSpared : ByteArray := prog_11_method_77_code
def yX9_isSpared : MethodName := ⟨RX9, "isSpared", "(I)Z"⟩
abbrev cX9_spareBy : ByteArray := prog_11_method_78_code
def yX9_spareBy : MethodName := ⟨RX9, "spareBy", "(I)I"⟩
abbrev cX9_spare : ByteArray := prog_11_method_79_code
def yX9_spare : MethodName := ⟨RX9, "spare", "(I)I"⟩
abbrev cX9_seen : ByteArray := prog_11_method_80_code
def yX9_seen : MethodName := ⟨RX9, "seen", "(III)I"⟩
abbrev cX9_forget : ByteArray := prog_11_method_81_code
def yX9_forget : MethodName := ⟨RX9, "forget", "()I"⟩
abbrev cX9_isSeen : ByteArray := prog_11_method_82_code
def yX9_isSeen : MethodName := ⟨RX9, "isSeen", "()Z"⟩
abbrev cX9_neverNow : ByteArray := prog_11_method_83_code
def yX9_neverNow : MethodName := ⟨RX9, "neverNow", "()I"⟩
abbrev cX9_pullsNow : ByteArray := prog_11_method_84_code
def yX9_pullsNow : MethodName := ⟨RX9, "pullsNow", "()I"⟩
abbrev cX9_mightBy : ByteArray := prog_11_method_85_code
def yX9_mightBy : MethodName := ⟨RX9, "mightBy", "(I)I"⟩
abbrev cX9_might : ByteArray := prog_11_method_86_code
def yX9_might : MethodName := ⟨RX9, "might", "(I)I"⟩
abbrev cX9_kindOf : ByteArray := prog_11_method_87_code
def yX9_kindOf : MethodName := ⟨RX9, "kindOf", "(I)I"⟩
abbrev cX9_kind : ByteArray := prog_11_method_88_code
def yX9_kind : MethodName := ⟨RX9, "kind", "(I)I"⟩
abbrev cX9_alike : ByteArray := prog_11_method_89_code
def yX9_alike : MethodName := ⟨RX9, "alike", "(II)I"⟩
abbrev cX9_askNow : ByteArray := prog_11_method_90_code
def yX9_askNow : MethodName := ⟨RX9, "askNow", "()I"⟩
abbrev cX9_ask : ByteArray := prog_11_method_91_code
def yX9_ask : MethodName := ⟨RX9, "ask", "()I"⟩
abbrev cX9_chanceOf : ByteArray := prog_11_method_92_code
def yX9_chanceOf : MethodName := ⟨RX9, "chanceOf", "(III)J"⟩
abbrev cX9_chance : ByteArray := prog_11_method_93_code
def yX9_chance : MethodName := ⟨RX9, "chance", "(III)J"⟩
abbrev cX9_lot : ByteArray := prog_11_method_94_code
def yX9_lot : MethodName := ⟨RX9, "lot", "(I)I"⟩
abbrev cX9_fairsOf : ByteArray := prog_11_method_95_code
def yX9_fairsOf : MethodName := ⟨RX9, "fairsOf", "(III)I"⟩
abbrev cX9_fairs : ByteArray := prog_11_method_96_code
def yX9_fairs : MethodName := ⟨RX9, "fairs", "(III)I"⟩
abbrev cX9_write : ByteArray := prog_11_method_97_code
def yX9_write : MethodName := ⟨RX9, "write", "(II)I"⟩
abbrev cX9_count : ByteArray := prog_11_method_98_code
def yX9_count : MethodName := ⟨RX9, "count", "(I)I"⟩
abbrev cX9_tellsTick : ByteArray := prog_11_method_99_code
def yX9_tellsTick : MethodName := ⟨RX9, "tellsTick", "(JII)J"⟩
abbrev cX9_tellsDuck : ByteArray := prog_11_method_100_code
def yX9_tellsDuck : MethodName := ⟨RX9, "tellsDuck", "(JI)J"⟩
abbrev cX9_tellsShot : ByteArray := prog_11_method_101_code
def yX9_tellsShot : MethodName := ⟨RX9, "tellsShot", "(JI)J"⟩
abbrev cX9_digest : ByteArray := prog_11_method_102_code
def yX9_digest : MethodName := ⟨RX9, "digest", "()J"⟩
def RJ11 : String := "java/lang/Character"
abbrev cJ11_isValidCodePoint_9a6ad : ByteArray := prog_12_method_11_code
def yJ11_isValidCodePoint_9a6ad : MethodName := ⟨RJ11, "isValidCodePoint", "(I)Z"⟩
abbrev cJ11_highSurrogate_5068e : ByteArray := prog_12_method_28_code
def yJ11_highSurrogate_5068e : MethodName := ⟨RJ11, "highSurrogate", "(I)C"⟩
abbrev cJ11_lowSurrogate_5068e : ByteArray := prog_12_method_29_code
def yJ11_lowSurrogate_5068e : MethodName := ⟨RJ11, "lowSurrogate", "(I)C"⟩
def RJ6 : String := "java/lang/Integer"
abbrev cJ6_numberOfTrailingZeros_0f7a4 : ByteArray := prog_13_method_48_code
def yJ6_numberOfTrailingZeros_0f7a4 : MethodName := ⟨RJ6, "numberOfTrailingZeros", "(I)I"⟩
abbrev cJ6_bitCount_0f7a4 : ByteArray := prog_13_method_49_code
def yJ6_bitCount_0f7a4 : MethodName := ⟨RJ6, "bitCount", "(I)I"⟩
def RJ9 : String := "java/lang/Math"
abbrev cJ9_floorMod_7cf53 : ByteArray := prog_14_method_50_code
def yJ9_floorMod_7cf53 : MethodName := ⟨RJ9, "floorMod", "(II)I"⟩
abbrev cJ9_max_7cf53 : ByteArray := prog_14_method_65_code
def yJ9_max_7cf53 : MethodName := ⟨RJ9, "max", "(II)I"⟩
abbrev cJ9_max_f86c9 : ByteArray := prog_14_method_66_code
def yJ9_max_f86c9 : MethodName := ⟨RJ9, "max", "(JJ)J"⟩
abbrev cJ9_min_7cf53 : ByteArray := prog_14_method_69_code
def yJ9_min_7cf53 : MethodName := ⟨RJ9, "min", "(II)I"⟩
def RJ0 : String := "java/lang/String"
abbrev cJ0_length_8abf5 : ByteArray := prog_15_method_54_code
def yJ0_length_8abf5 : MethodName := ⟨RJ0, "length", "()I"⟩
abbrev cJ0_indexOf_0f7a4 : ByteArray := prog_15_method_79_code
def yJ0_indexOf_0f7a4 : MethodName := ⟨RJ0, "indexOf", "(I)I"⟩
abbrev cJ0_indexOf_7cf53 : ByteArray := prog_15_method_80_code
def yJ0_indexOf_7cf53 : MethodName := ⟨RJ0, "indexOf", "(II)I"⟩
abbrev cJ0_coder_7d493 : ByteArray := prog_15_method_152_code
def yJ0_coder_7d493 : MethodName := ⟨RJ0, "coder", "()B"⟩
abbrev cJ0_isLatin1_aae02 : ByteArray := prog_15_method_154_code
def yJ0_isLatin1_aae02 : MethodName := ⟨RJ0, "isLatin1", "()Z"⟩
abbrev cJ0_checkBoundsBeginEnd_23922 : ByteArray := prog_15_method_158_code
def yJ0_checkBoundsBeginEnd_23922 : MethodName := ⟨RJ0, "checkBoundsBeginEnd", "(III)V"⟩
def RJ1 : String := "java/lang/StringLatin1"
abbrev cJ1_canEncode_9a6ad : ByteArray := prog_16_method_4_code
def yJ1_canEncode_9a6ad : MethodName := ⟨RJ1, "canEncode", "(I)Z"⟩
abbrev cJ1_indexOf_4cfef : ByteArray := prog_16_method_22_code
def yJ1_indexOf_4cfef : MethodName := ⟨RJ1, "indexOf", "([BIII)I"⟩
abbrev cJ1_indexOfChar_4cfef : ByteArray := prog_16_method_23_code
def yJ1_indexOfChar_4cfef : MethodName := ⟨RJ1, "indexOfChar", "([BIII)I"⟩
def RJ2 : String := "java/lang/StringUTF16"
abbrev cJ2_getChar_3b067 : ByteArray := prog_17_method_5_code
def yJ2_getChar_3b067 : MethodName := ⟨RJ2, "getChar", "([BI)C"⟩
abbrev cJ2_length_9d52b : ByteArray := prog_17_method_6_code
def yJ2_length_9d52b : MethodName := ⟨RJ2, "length", "([B)I"⟩
abbrev cJ2_indexOf_4cfef : ByteArray := prog_17_method_40_code
def yJ2_indexOf_4cfef : MethodName := ⟨RJ2, "indexOf", "([BIII)I"⟩
abbrev cJ2_indexOfChar_4cfef : ByteArray := prog_17_method_47_code
def yJ2_indexOfChar_4cfef : MethodName := ⟨RJ2, "indexOfChar", "([BIII)I"⟩
abbrev cJ2_indexOfCharUnsafe_4cfef : ByteArray := prog_17_method_48_code
def yJ2_indexOfCharUnsafe_4cfef : MethodName := ⟨RJ2, "indexOfCharUnsafe", "([BIII)I"⟩
abbrev cJ2_indexOfSupplementary_4cfef : ByteArray := prog_17_method_49_code
def yJ2_indexOfSupplementary_4cfef : MethodName := ⟨RJ2, "indexOfSupplementary", "([BIII)I"⟩
abbrev cJ2_checkBoundsBeginEnd_d044e : ByteArray := prog_17_method_93_code
def yJ2_checkBoundsBeginEnd_d044e : MethodName := ⟨RJ2, "checkBoundsBeginEnd", "(II[B)V"⟩
def RJ10 : String := "java/lang/System"
def RJ7 : String := "java/util/Arrays"
abbrev cJ7_fill_53178 : ByteArray := prog_19_method_103_code
def yJ7_fill_53178 : MethodName := ⟨RJ7, "fill", "([II)V"⟩
def RJ3 : String := "jdk/internal/util/Preconditions"
abbrev cJ3_checkFromToIndex_8c36e : ByteArray := prog_20_method_12_code
def yJ3_checkFromToIndex_8c36e : MethodName := ⟨RJ3, "checkFromToIndex", "(IIILjava/util/function/BiFunction;)I"⟩
def RL : String := "TinDucksLaw"
abbrev cL_law : ByteArray := code
def yL_law : MethodName := ⟨RL, "law", "([I)Z"⟩
abbrev vwCl : List vw_C := [(RX0, TX0, 5), (RX1, TX1, 5), (RX2, TX2, 17), (RX3, TX3, 4), (RX4, TX4, 4), (RX5, TX5, 4), (RX6, TX6, 8), (RX7, TX7, 8), (RX8, TX8, 16), (RX9, TX9, 28)]
def dchk (b : ByteArray) (l : List (Nat × Instr × Nat)) : Bool := l.all (fun q => decide (decode b q.1 = .ok q.2))
theorem dget {b : ByteArray} {l : List (Nat × Instr × Nat)} (h : dchk b l = true) (j : Nat) {pc : Nat} {i : Instr} {n : Nat} (hj : l[j]? = some (pc, i, n)) : decode b pc = .ok (i, n) := by
  have h1 := List.all_eq_true.mp h _ (List.mem_of_getElem? hj)
  exact of_decide_eq_true h1
end
section
def pX0_init : List (Nat × Instr × Nat) := [(0, .aload_n 0, 1), (1, .invokespecial 3, 3), (4, .aload_n 0, 1), (5, .bipush 72, 2), (7, .newarray .int, 2), (9, .putfield 9, 3), (12, .aload_n 0, 1), (13, .bipush 24, 2), (15, .newarray .int, 2), (17, .putfield 15, 3), (20, .aload_n 0, 1), (21, .bipush 24, 2), (23, .newarray .int, 2), (25, .putfield 18, 3), (28, .aload_n 0, 1), (29, .aload_n 1, 1), (30, .putfield 21, 3), (33, .aload_n 0, 1), (34, .aload_n 2, 1), (35, .putfield 25, 3), (38, .return_, 1)]
theorem kX0_init : dchk cX0_init pX0_init = true := by decide +kernel
def pX0_go : List (Nat × Instr × Nat) := [(0, .iconst 0, 1), (1, .istore_n 2, 1), (2, .iload_n 2, 1), (3, .bipush 24, 2), (5, .if_icmp .ge 99, 3), (8, .aload_n 0, 1), (9, .getfield 25, 3), (12, .getfield 29, 3), (15, .iload_n 2, 1), (16, .iaload, 1), (17, .iload_n 1, 1), (18, .iand, 1), (19, .istore_n 3, 1), (20, .iconst 0, 1), (21, .istore 4, 2), (23, .iconst 0, 1), (24, .istore 5, 2), (26, .iconst 0, 1), (27, .istore 6, 2), (29, .iload_n 3, 1), (30, .ifCond .eq 36, 3), (33, .aload_n 0, 1), (34, .getfield 25, 3), (37, .iload_n 3, 1), (38, .iconst 0, 1), (39, .invokevirtual 34, 3), (42, .istore 4, 2), (44, .aload_n 0, 1), (45, .getfield 25, 3), (48, .iload_n 3, 1), (49, .iconst 2, 1), (50, .invokevirtual 34, 3), (53, .istore 5, 2), (55, .aload_n 0, 1), (56, .getfield 25, 3), (59, .iload_n 3, 1), (60, .iconst 1, 1), (61, .invokevirtual 34, 3), (64, .istore 6, 2), (66, .aload_n 0, 1), (67, .getfield 18, 3), (70, .iload_n 2, 1), (71, .iload 6, 2), (73, .ifCond .eq 7, 3), (76, .iconst 1, 1), (77, .goto 4, 3), (80, .iconst 0, 1), (81, .iastore, 1), (82, .aload_n 0, 1), (83, .getfield 15, 3), (86, .iload_n 2, 1), (87, .iload 5, 2), (89, .aload_n 0, 1), (90, .iload_n 2, 1), (91, .iload 4, 2), (93, .invokevirtual 38, 3), (96, .ior, 1), (97, .iastore, 1), (98, .iinc 2 1, 3), (101, .goto (-99), 3), (104, .return_, 1)]
theorem kX0_go : dchk cX0_go pX0_go = true := by decide +kernel
def pX0_goOn : List (Nat × Instr × Nat) := [(0, .iconst 0, 1), (1, .istore_n 3, 1), (2, .iconst 0, 1), (3, .istore 4, 2), (5, .iload 4, 2), (7, .iconst 3, 1), (8, .if_icmp .ge 101, 3), (11, .iload_n 1, 1), (12, .ifCond .ne 7, 3), (15, .iconst 0, 1), (16, .goto 16, 3), (19, .aload_n 0, 1), (20, .getfield 9, 3), (23, .iload_n 1, 1), (24, .iconst 1, 1), (25, .isub, 1), (26, .iconst 3, 1), (27, .imul, 1), (28, .iload 4, 2), (30, .iadd, 1), (31, .iaload, 1), (32, .istore 5, 2), (34, .iload_n 2, 1), (35, .iload 4, 2), (37, .invokestatic 41, 3), (40, .ifCond .eq 7, 3), (43, .iconst 0, 1), (44, .goto 13, 3), (47, .aload_n 0, 1), (48, .getfield 21, 3), (51, .getfield 45, 3), (54, .iload 4, 2), (56, .iaload, 1), (57, .istore 6, 2), (59, .iload 5, 2), (61, .iload 6, 2), (63, .iadd, 1), (64, .bipush 12, 2), (66, .invokestatic 50, 3), (69, .istore 7, 2), (71, .aload_n 0, 1), (72, .getfield 9, 3), (75, .iload_n 1, 1), (76, .iconst 3, 1), (77, .imul, 1), (78, .iload 4, 2), (80, .iadd, 1), (81, .iload 7, 2), (83, .iastore, 1), (84, .iload_n 3, 1), (85, .aload_n 0, 1), (86, .getfield 21, 3), (89, .getfield 55, 3), (92, .iload 4, 2), (94, .bipush 12, 2), (96, .imul, 1), (97, .iload 7, 2), (99, .iadd, 1), (100, .iaload, 1), (101, .ior, 1), (102, .istore_n 3, 1), (103, .iinc 4 1, 3), (106, .goto (-101), 3), (109, .iload_n 3, 1), (110, .ireturn, 1)]
theorem kX0_goOn : dchk cX0_goOn pX0_goOn = true := by decide +kernel
def pX0_placeBehind : List (Nat × Instr × Nat) := [(0, .aload_n 0, 1), (1, .getfield 21, 3), (4, .getfield 58, 3), (7, .iload_n 2, 1), (8, .iaload, 1), (9, .aload_n 0, 1), (10, .getfield 9, 3), (13, .iload_n 1, 1), (14, .iconst 3, 1), (15, .imul, 1), (16, .aload_n 0, 1), (17, .getfield 21, 3), (20, .getfield 61, 3), (23, .iload_n 2, 1), (24, .iaload, 1), (25, .iadd, 1), (26, .iaload, 1), (27, .iadd, 1), (28, .bipush 12, 2), (30, .irem, 1), (31, .ireturn, 1)]
theorem kX0_placeBehind : dchk cX0_placeBehind pX0_placeBehind = true := by decide +kernel
def pX0_duckAt : List (Nat × Instr × Nat) := [(0, .iload_n 3, 1), (1, .bipush 12, 2), (3, .iadd, 1), (4, .aload_n 0, 1), (5, .getfield 9, 3), (8, .iload_n 1, 1), (9, .iconst 3, 1), (10, .imul, 1), (11, .iload_n 2, 1), (12, .iadd, 1), (13, .iaload, 1), (14, .isub, 1), (15, .bipush 12, 2), (17, .irem, 1), (18, .istore 4, 2), (20, .aload_n 0, 1), (21, .getfield 21, 3), (24, .getfield 64, 3), (27, .iload_n 2, 1), (28, .bipush 12, 2), (30, .imul, 1), (31, .iload 4, 2), (33, .iadd, 1), (34, .iaload, 1), (35, .ireturn, 1)]
theorem kX0_duckAt : dchk cX0_duckAt pX0_duckAt = true := by decide +kernel
def pX1_init : List (Nat × Instr × Nat) := [(0, .aload_n 0, 1), (1, .invokespecial 3, 3), (4, .aload_n 0, 1), (5, .bipush 8, 2), (7, .newarray .int, 2), (9, .putfield 9, 3), (12, .aload_n 0, 1), (13, .bipush 8, 2), (15, .newarray .int, 2), (17, .putfield 15, 3), (20, .aload_n 0, 1), (21, .bipush 8, 2), (23, .newarray .int, 2), (25, .putfield 18, 3), (28, .aload_n 0, 1), (29, .bipush 24, 2), (31, .newarray .int, 2), (33, .putfield 21, 3), (36, .return_, 1)]
theorem kX1_init : dchk cX1_init pX1_init = true := by decide +kernel
def pX1_isFull : List (Nat × Instr × Nat) := [(0, .aload_n 0, 1), (1, .getfield 24, 3), (4, .bipush 8, 2), (6, .if_icmp .lt 7, 3), (9, .iconst 1, 1), (10, .goto 4, 3), (13, .iconst 0, 1), (14, .ireturn, 1)]
theorem kX1_isFull : dchk cX1_isFull pX1_isFull = true := by decide +kernel
def pX1_append : List (Nat × Instr × Nat) := [(0, .aload_n 0, 1), (1, .getfield 9, 3), (4, .aload_n 0, 1), (5, .getfield 24, 3), (8, .iload_n 1, 1), (9, .iastore, 1), (10, .aload_n 0, 1), (11, .getfield 15, 3), (14, .aload_n 0, 1), (15, .getfield 24, 3), (18, .iload_n 2, 1), (19, .iastore, 1), (20, .aload_n 0, 1), (21, .getfield 18, 3), (24, .aload_n 0, 1), (25, .getfield 24, 3), (28, .iload_n 3, 1), (29, .iastore, 1), (30, .aload_n 0, 1), (31, .getfield 21, 3), (34, .iload_n 2, 1), (35, .dup2, 1), (36, .iaload, 1), (37, .iconst 1, 1), (38, .aload_n 0, 1), (39, .getfield 24, 3), (42, .ishl, 1), (43, .ior, 1), (44, .iastore, 1), (45, .aload_n 0, 1), (46, .dup, 1), (47, .getfield 24, 3), (50, .iconst 1, 1), (51, .iadd, 1), (52, .putfield 24, 3), (55, .return_, 1)]
theorem kX1_append : dchk cX1_append pX1_append = true := by decide +kernel
def pX1_dropLast : List (Nat × Instr × Nat) := [(0, .aload_n 0, 1), (1, .dup, 1), (2, .getfield 24, 3), (5, .iconst 1, 1), (6, .isub, 1), (7, .putfield 24, 3), (10, .aload_n 0, 1), (11, .getfield 21, 3), (14, .aload_n 0, 1), (15, .getfield 15, 3), (18, .aload_n 0, 1), (19, .getfield 24, 3), (22, .iaload, 1), (23, .dup2, 1), (24, .iaload, 1), (25, .iconst 1, 1), (26, .aload_n 0, 1), (27, .getfield 24, 3), (30, .ishl, 1), (31, .iconst (-1), 1), (32, .ixor, 1), (33, .iand, 1), (34, .iastore, 1), (35, .return_, 1)]
theorem kX1_dropLast : dchk cX1_dropLast pX1_dropLast = true := by decide +kernel
def pX1_all : List (Nat × Instr × Nat) := [(0, .iconst 1, 1), (1, .aload_n 0, 1), (2, .getfield 24, 3), (5, .ishl, 1), (6, .iconst 1, 1), (7, .isub, 1), (8, .ireturn, 1)]
theorem kX1_all : dchk cX1_all pX1_all = true := by decide +kernel
def pX1_numbers : List (Nat × Instr × Nat) := [(0, .iconst 0, 1), (1, .istore_n 3, 1), (2, .iconst 0, 1), (3, .istore 4, 2), (5, .iload 4, 2), (7, .aload_n 0, 1), (8, .getfield 24, 3), (11, .if_icmp .ge 41, 3), (14, .iload_n 1, 1), (15, .iload 4, 2), (17, .invokestatic 28, 3), (20, .ifCond .eq 26, 3), (23, .aload_n 0, 1), (24, .getfield 9, 3), (27, .iload 4, 2), (29, .iaload, 1), (30, .iload_n 2, 1), (31, .if_icmp .ne 15, 3), (34, .iload_n 3, 1), (35, .iconst 1, 1), (36, .aload_n 0, 1), (37, .getfield 18, 3), (40, .iload 4, 2), (42, .iaload, 1), (43, .ishl, 1), (44, .ior, 1), (45, .istore_n 3, 1), (46, .iinc 4 1, 3), (49, .goto (-44), 3), (52, .iload_n 3, 1), (53, .ireturn, 1)]
theorem kX1_numbers : dchk cX1_numbers pX1_numbers = true := by decide +kernel
def pX2_init : List (Nat × Instr × Nat) := [(0, .aload_n 0, 1), (1, .invokespecial 3, 3), (4, .aload_n 0, 1), (5, .new 9, 3), (8, .dup, 1), (9, .invokespecial 11, 3), (12, .putfield 12, 3), (15, .aload_n 0, 1), (16, .bipush 12, 2), (18, .newarray .int, 2), (20, .putfield 18, 3), (23, .aload_n 0, 1), (24, .iconst 2, 1), (25, .putfield 22, 3), (28, .aload_n 0, 1), (29, .iconst 1, 1), (30, .putfield 26, 3), (33, .aload_n 0, 1), (34, .bipush 24, 2), (36, .newarray .int, 2), (38, .putfield 29, 3), (41, .aload_n 0, 1), (42, .bipush 24, 2), (44, .newarray .int, 2), (46, .putfield 32, 3), (49, .aload_n 0, 1), (50, .bipush 24, 2), (52, .newarray .long, 2), (54, .putfield 35, 3), (57, .aload_n 0, 1), (58, .bipush 12, 2), (60, .newarray .int, 2), (62, .putfield 39, 3), (65, .aload_n 0, 1), (66, .bipush 12, 2), (68, .newarray .int, 2), (70, .putfield 42, 3), (73, .aload_n 0, 1), (74, .bipush 24, 2), (76, .newarray .int, 2), (78, .putfield 45, 3), (81, .aload_n 0, 1), (82, .aload_n 1, 1), (83, .putfield 48, 3), (86, .aload_n 0, 1), (87, .aload_n 2, 1), (88, .putfield 52, 3), (91, .return_, 1)]
theorem kX2_init : dchk cX2_init pX2_init = true := by decide +kernel
def pX2_takeFrom : List (Nat × Instr × Nat) := [(0, .aload_n 0, 1), (1, .getfield 12, 3), (4, .aload_n 1, 1), (5, .getfield 12, 3), (8, .invokevirtual 56, 3), (11, .aload_n 1, 1), (12, .getfield 18, 3), (15, .iconst 0, 1), (16, .aload_n 0, 1), (17, .getfield 18, 3), (20, .iconst 0, 1), (21, .bipush 12, 2), (23, .invokestatic 60, 3), (26, .aload_n 0, 1), (27, .aload_n 1, 1), (28, .getfield 22, 3), (31, .putfield 22, 3), (34, .aload_n 0, 1), (35, .aload_n 1, 1), (36, .getfield 26, 3), (39, .putfield 26, 3), (42, .aload_n 0, 1), (43, .aload_n 1, 1), (44, .getfield 52, 3), (47, .putfield 52, 3), (50, .return_, 1)]
theorem kX2_takeFrom : dchk cX2_takeFrom pX2_takeFrom = true := by decide +kernel
def pX2_comingTick : List (Nat × Instr × Nat) := [(0, .aload_n 0, 1), (1, .getfield 12, 3), (4, .getfield 66, 3), (7, .iload_n 1, 1), (8, .iaload, 1), (9, .aload_n 0, 1), (10, .getfield 26, 3), (13, .iadd, 1), (14, .istore_n 2, 1), (15, .iload_n 2, 1), (16, .bipush 24, 2), (18, .if_icmp .ge 7, 3), (21, .iload_n 2, 1), (22, .goto 4, 3), (25, .iconst (-1), 1), (26, .ireturn, 1)]
theorem kX2_comingTick : dchk cX2_comingTick pX2_comingTick = true := by decide +kernel
def pX2_conditionBehind : List (Nat × Instr × Nat) := [(0, .aload_n 0, 1), (1, .getfield 29, 3), (4, .iload_n 1, 1), (5, .iaload, 1), (6, .iload_n 2, 1), (7, .invokestatic 69, 3), (10, .ifCond .eq 5, 3), (13, .iconst 2, 1), (14, .ireturn, 1), (15, .aload_n 0, 1), (16, .getfield 32, 3), (19, .iload_n 1, 1), (20, .iaload, 1), (21, .iload_n 2, 1), (22, .invokestatic 69, 3), (25, .ifCond .eq 7, 3), (28, .iconst 1, 1), (29, .goto 4, 3), (32, .iconst 0, 1), (33, .ireturn, 1)]
theorem kX2_conditionBehind : dchk cX2_conditionBehind pX2_conditionBehind = true := by decide +kernel
def pX2_hitsBehind : List (Nat × Instr × Nat) := [(0, .aload_n 0, 1), (1, .getfield 35, 3), (4, .iload_n 1, 1), (5, .laload, 1), (6, .iconst 4, 1), (7, .iload_n 2, 1), (8, .imul, 1), (9, .lshr, 1), (10, .ldc2_w 73, 3), (13, .land, 1), (14, .l2i, 1), (15, .ireturn, 1)]
theorem kX2_hitsBehind : dchk cX2_hitsBehind pX2_hitsBehind = true := by decide +kernel
def pX2_tellDuckBehind : List (Nat × Instr × Nat) := [(0, .iload_n 3, 1), (1, .lookupswitch 44 #[(0, 27), (1, 37)], 27), (28, .aload_n 0, 1), (29, .getfield 52, 3), (32, .iload_n 1, 1), (33, .iload_n 2, 1), (34, .invokevirtual 75, 3), (37, .ireturn, 1), (38, .aload_n 0, 1), (39, .iload_n 1, 1), (40, .iload_n 2, 1), (41, .invokevirtual 81, 3), (44, .ireturn, 1), (45, .aload_n 0, 1), (46, .iload_n 1, 1), (47, .iload_n 2, 1), (48, .invokevirtual 84, 3), (51, .ireturn, 1)]
theorem kX2_tellDuckBehind : dchk cX2_tellDuckBehind pX2_tellDuckBehind = true := by decide +kernel
def pX2_tellOutcome : List (Nat × Instr × Nat) := [(0, .iload_n 2, 1), (1, .lookupswitch 40 #[(0, 27), (1, 33)], 27), (28, .aload_n 0, 1), (29, .iload_n 1, 1), (30, .invokevirtual 87, 3), (33, .ireturn, 1), (34, .aload_n 0, 1), (35, .getfield 39, 3), (38, .iload_n 1, 1), (39, .iaload, 1), (40, .ireturn, 1), (41, .aload_n 0, 1), (42, .getfield 42, 3), (45, .iload_n 1, 1), (46, .iaload, 1), (47, .ireturn, 1)]
theorem kX2_tellOutcome : dchk cX2_tellOutcome pX2_tellOutcome = true := by decide +kernel
def pX2_tellSum : List (Nat × Instr × Nat) := [(0, .aload_n 0, 1), (1, .getfield 91, 3), (4, .invokestatic 94, 3), (7, .istore_n 2, 1), (8, .iload_n 1, 1), (9, .lookupswitch 34 #[(0, 27), (1, 32)], 27), (36, .aload_n 0, 1), (37, .getfield 99, 3), (40, .ireturn, 1), (41, .iload_n 2, 1), (42, .ireturn, 1), (43, .aload_n 0, 1), (44, .getfield 12, 3), (47, .getfield 102, 3), (50, .iload_n 2, 1), (51, .isub, 1), (52, .ireturn, 1)]
theorem kX2_tellSum : dchk cX2_tellSum pX2_tellSum = true := by decide +kernel
def pX2_play : List (Nat × Instr × Nat) := [(0, .aload_n 0, 1), (1, .invokevirtual 105, 3), (4, .iconst 0, 1), (5, .istore_n 1, 1), (6, .iload_n 1, 1), (7, .bipush 24, 2), (9, .if_icmp .ge 126, 3), (12, .aload_n 0, 1), (13, .dup, 1), (14, .getfield 108, 3), (17, .aload_n 0, 1), (18, .getfield 52, 3), (21, .getfield 111, 3), (24, .iload_n 1, 1), (25, .iaload, 1), (26, .iconst (-1), 1), (27, .ixor, 1), (28, .iand, 1), (29, .putfield 108, 3), (32, .aload_n 0, 1), (33, .dup, 1), (34, .getfield 114, 3), (37, .aload_n 0, 1), (38, .getfield 52, 3), (41, .getfield 111, 3), (44, .iload_n 1, 1), (45, .iaload, 1), (46, .iconst (-1), 1), (47, .ixor, 1), (48, .iand, 1), (49, .putfield 114, 3), (52, .iconst 0, 1), (53, .istore_n 2, 1), (54, .aload_n 0, 1), (55, .getfield 45, 3), (58, .iload_n 1, 1), (59, .iaload, 1), (60, .ifCond .eq 39, 3), (63, .iload_n 2, 1), (64, .aload_n 0, 1), (65, .getfield 12, 3), (68, .getfield 102, 3), (71, .if_icmp .ge 28, 3), (74, .aload_n 0, 1), (75, .getfield 45, 3), (78, .iload_n 1, 1), (79, .iaload, 1), (80, .iconst 1, 1), (81, .iload_n 2, 1), (82, .ishl, 1), (83, .iand, 1), (84, .ifCond .eq 9, 3), (87, .aload_n 0, 1), (88, .iload_n 1, 1), (89, .iload_n 2, 1), (90, .invokevirtual 117, 3), (93, .iinc 2 1, 3), (96, .goto (-42), 3), (99, .aload_n 0, 1), (100, .getfield 29, 3), (103, .iload_n 1, 1), (104, .aload_n 0, 1), (105, .getfield 108, 3), (108, .iastore, 1), (109, .aload_n 0, 1), (110, .getfield 32, 3), (113, .iload_n 1, 1), (114, .aload_n 0, 1), (115, .getfield 114, 3), (118, .iastore, 1), (119, .aload_n 0, 1), (120, .getfield 35, 3), (123, .iload_n 1, 1), (124, .aload_n 0, 1), (125, .getfield 121, 3), (128, .lastore, 1), (129, .iinc 1 1, 3), (132, .goto (-126), 3), (135, .return_, 1)]
theorem kX2_play : dchk cX2_play pX2_play = true := by decide +kernel
def pX2_begin : List (Nat × Instr × Nat) := [(0, .aload_n 0, 1), (1, .iconst 0, 1), (2, .putfield 108, 3), (5, .aload_n 0, 1), (6, .iconst 0, 1), (7, .putfield 114, 3), (10, .aload_n 0, 1), (11, .lconst 0, 1), (12, .putfield 121, 3), (15, .aload_n 0, 1), (16, .iconst 0, 1), (17, .putfield 99, 3), (20, .aload_n 0, 1), (21, .iconst 0, 1), (22, .putfield 91, 3), (25, .aload_n 0, 1), (26, .getfield 45, 3), (29, .iconst 0, 1), (30, .invokestatic 125, 3), (33, .iconst 0, 1), (34, .istore_n 1, 1), (35, .iload_n 1, 1), (36, .aload_n 0, 1), (37, .getfield 12, 3), (40, .getfield 102, 3), (43, .if_icmp .ge 46, 3), (46, .aload_n 0, 1), (47, .getfield 39, 3), (50, .iload_n 1, 1), (51, .iconst (-1), 1), (52, .iastore, 1), (53, .aload_n 0, 1), (54, .getfield 42, 3), (57, .iload_n 1, 1), (58, .iconst 0, 1), (59, .iastore, 1), (60, .aload_n 0, 1), (61, .iload_n 1, 1), (62, .invokevirtual 87, 3), (65, .istore_n 2, 1), (66, .iload_n 2, 1), (67, .iconst (-1), 1), (68, .if_icmp .eq 15, 3), (71, .aload_n 0, 1), (72, .getfield 45, 3), (75, .iload_n 2, 1), (76, .dup2, 1), (77, .iaload, 1), (78, .iconst 1, 1), (79, .iload_n 1, 1), (80, .ishl, 1), (81, .ior, 1), (82, .iastore, 1), (83, .iinc 1 1, 3), (86, .goto (-51), 3), (89, .return_, 1)]
theorem kX2_begin : dchk cX2_begin pX2_begin = true := by decide +kernel
def pX2_shoot : List (Nat × Instr × Nat) := [(0, .aload_n 0, 1), (1, .getfield 12, 3), (4, .getfield 131, 3), (7, .iload_n 2, 1), (8, .iaload, 1), (9, .aload_n 0, 1), (10, .getfield 22, 3), (13, .iadd, 1), (14, .iconst 2, 1), (15, .isub, 1), (16, .aload_n 0, 1), (17, .getfield 52, 3), (20, .getfield 134, 3), (23, .iload_n 1, 1), (24, .iaload, 1), (25, .iadd, 1), (26, .istore_n 3, 1), (27, .iload_n 3, 1), (28, .bipush 6, 2), (30, .invokestatic 137, 3), (33, .ifCond .ne 4, 3), (36, .return_, 1), (37, .aload_n 0, 1), (38, .getfield 12, 3), (41, .getfield 140, 3), (44, .iload_n 2, 1), (45, .iaload, 1), (46, .istore 4, 2), (48, .iload 4, 2), (50, .iconst 3, 1), (51, .if_icmp .ge 60, 3), (54, .aload_n 0, 1), (55, .getfield 52, 3), (58, .iload_n 1, 1), (59, .iload 4, 2), (61, .iload_n 3, 1), (62, .invokevirtual 143, 3), (65, .istore 5, 2), (67, .iload 5, 2), (69, .iconst (-1), 1), (70, .if_icmp .eq 15, 3), (73, .aload_n 0, 1), (74, .getfield 108, 3), (77, .iload 5, 2), (79, .invokestatic 69, 3), (82, .ifCond .eq 4, 3), (85, .return_, 1), (86, .aload_n 0, 1), (87, .iload_n 2, 1), (88, .iload 5, 2), (90, .invokevirtual 147, 3), (93, .aload_n 0, 1), (94, .getfield 18, 3), (97, .iload 5, 2), (99, .iaload, 1), (100, .iconst 2, 1), (101, .if_icmp .eq 4, 3), (104, .return_, 1), (105, .iinc 4 1, 3), (108, .goto (-60), 3), (111, .return_, 1)]
theorem kX2_shoot : dchk cX2_shoot pX2_shoot = true := by decide +kernel
def pX2_strike : List (Nat × Instr × Nat) := [(0, .aload_n 0, 1), (1, .getfield 39, 3), (4, .iload_n 1, 1), (5, .iaload, 1), (6, .iconst (-1), 1), (7, .if_icmp .ne 10, 3), (10, .aload_n 0, 1), (11, .getfield 39, 3), (14, .iload_n 1, 1), (15, .iload_n 2, 1), (16, .iastore, 1), (17, .aload_n 0, 1), (18, .dup, 1), (19, .getfield 91, 3), (22, .iconst 1, 1), (23, .iload_n 1, 1), (24, .ishl, 1), (25, .ior, 1), (26, .putfield 91, 3), (29, .aload_n 0, 1), (30, .dup, 1), (31, .getfield 121, 3), (34, .lconst 1, 1), (35, .iconst 4, 1), (36, .iload_n 2, 1), (37, .imul, 1), (38, .lshl, 1), (39, .ladd, 1), (40, .putfield 121, 3), (43, .iconst 1, 1), (44, .iload_n 2, 1), (45, .ishl, 1), (46, .istore_n 3, 1), (47, .aload_n 0, 1), (48, .getfield 18, 3), (51, .iload_n 2, 1), (52, .iaload, 1), (53, .iconst 1, 1), (54, .if_icmp .ne 23, 3), (57, .aload_n 0, 1), (58, .getfield 114, 3), (61, .iload_n 3, 1), (62, .iand, 1), (63, .ifCond .ne 14, 3), (66, .aload_n 0, 1), (67, .dup, 1), (68, .getfield 114, 3), (71, .iload_n 3, 1), (72, .ior, 1), (73, .putfield 114, 3), (76, .return_, 1), (77, .aload_n 0, 1), (78, .dup, 1), (79, .getfield 114, 3), (82, .iload_n 3, 1), (83, .iconst (-1), 1), (84, .ixor, 1), (85, .iand, 1), (86, .putfield 114, 3), (89, .aload_n 0, 1), (90, .dup, 1), (91, .getfield 108, 3), (94, .iload_n 3, 1), (95, .ior, 1), (96, .putfield 108, 3), (99, .aload_n 0, 1), (100, .getfield 42, 3), (103, .iload_n 1, 1), (104, .dup2, 1), (105, .iaload, 1), (106, .aload_n 0, 1), (107, .getfield 48, 3), (110, .getfield 150, 3), (113, .iload_n 2, 1), (114, .iaload, 1), (115, .iadd, 1), (116, .iastore, 1), (117, .aload_n 0, 1), (118, .dup, 1), (119, .getfield 99, 3), (122, .aload_n 0, 1), (123, .getfield 48, 3), (126, .getfield 150, 3), (129, .iload_n 2, 1), (130, .iaload, 1), (131, .iadd, 1), (132, .putfield 99, 3), (135, .return_, 1)]
theorem kX2_strike : dchk cX2_strike pX2_strike = true := by decide +kernel
def pX3_init : List (Nat × Instr × Nat) := [(0, .aload_n 0, 1), (1, .invokespecial 3, 3), (4, .aload_n 0, 1), (5, .bipush 8, 2), (7, .newarray .int, 2), (9, .putfield 9, 3), (12, .aload_n 0, 1), (13, .bipush 8, 2), (15, .newarray .int, 2), (17, .putfield 15, 3), (20, .aload_n 0, 1), (21, .bipush 8, 2), (23, .newarray .int, 2), (25, .putfield 18, 3), (28, .return_, 1)]
theorem kX3_init : dchk cX3_init pX3_init = true := by decide +kernel
def pX3_isFull : List (Nat × Instr × Nat) := [(0, .aload_n 0, 1), (1, .getfield 21, 3), (4, .bipush 8, 2), (6, .if_icmp .lt 7, 3), (9, .iconst 1, 1), (10, .goto 4, 3), (13, .iconst 0, 1), (14, .ireturn, 1)]
theorem kX3_isFull : dchk cX3_isFull pX3_isFull = true := by decide +kernel
def pX3_append : List (Nat × Instr × Nat) := [(0, .aload_n 0, 1), (1, .getfield 9, 3), (4, .aload_n 0, 1), (5, .getfield 21, 3), (8, .iload_n 1, 1), (9, .iastore, 1), (10, .aload_n 0, 1), (11, .getfield 15, 3), (14, .aload_n 0, 1), (15, .getfield 21, 3), (18, .iload_n 2, 1), (19, .iastore, 1), (20, .aload_n 0, 1), (21, .getfield 18, 3), (24, .aload_n 0, 1), (25, .getfield 21, 3), (28, .iload_n 3, 1), (29, .iastore, 1), (30, .aload_n 0, 1), (31, .dup, 1), (32, .getfield 21, 3), (35, .iconst 1, 1), (36, .iadd, 1), (37, .putfield 21, 3), (40, .return_, 1)]
theorem kX3_append : dchk cX3_append pX3_append = true := by decide +kernel
def pX3_fits : List (Nat × Instr × Nat) := [(0, .iconst 0, 1), (1, .istore_n 3, 1), (2, .iload_n 3, 1), (3, .aload_n 0, 1), (4, .getfield 21, 3), (7, .if_icmp .ge 60, 3), (10, .aload_n 1, 1), (11, .aload_n 0, 1), (12, .getfield 9, 3), (15, .iload_n 3, 1), (16, .iaload, 1), (17, .iaload, 1), (18, .aload_n 0, 1), (19, .getfield 15, 3), (22, .iload_n 3, 1), (23, .iaload, 1), (24, .invokestatic 25, 3), (27, .istore 4, 2), (29, .aload_n 0, 1), (30, .getfield 15, 3), (33, .iload_n 3, 1), (34, .iaload, 1), (35, .iload_n 2, 1), (36, .if_icmp .ge 23, 3), (39, .iload 4, 2), (41, .aload_n 0, 1), (42, .getfield 18, 3), (45, .iload_n 3, 1), (46, .iaload, 1), (47, .iconst 1, 1), (48, .if_icmp .ne 7, 3), (51, .iconst 1, 1), (52, .goto 4, 3), (55, .iconst 0, 1), (56, .if_icmp .eq 5, 3), (59, .iconst 0, 1), (60, .ireturn, 1), (61, .iinc 3 1, 3), (64, .goto (-62), 3), (67, .iconst 1, 1), (68, .ireturn, 1)]
theorem kX3_fits : dchk cX3_fits pX3_fits = true := by decide +kernel
def pX4_init : List (Nat × Instr × Nat) := [(0, .aload_n 0, 1), (1, .invokespecial 3, 3), (4, .aload_n 0, 1), (5, .bipush 60, 2), (7, .newarray .int, 2), (9, .putfield 9, 3), (12, .aload_n 0, 1), (13, .iconst 1, 1), (14, .putfield 15, 3), (17, .return_, 1)]
theorem kX4_init : dchk cX4_init pX4_init = true := by decide +kernel
def pX4_begin : List (Nat × Instr × Nat) := [(0, .aload_n 0, 1), (1, .iload_n 1, 1), (2, .putfield 19, 3), (5, .aload_n 0, 1), (6, .iload_n 2, 1), (7, .putfield 23, 3), (10, .aload_n 0, 1), (11, .iconst 0, 1), (12, .putfield 15, 3), (15, .aload_n 0, 1), (16, .getfield 9, 3), (19, .iconst 0, 1), (20, .invokestatic 26, 3), (23, .return_, 1)]
theorem kX4_begin : dchk cX4_begin pX4_begin = true := by decide +kernel
def pX4_has : List (Nat × Instr × Nat) := [(0, .iload_n 1, 1), (1, .ifCond .lt 29, 3), (4, .iload_n 2, 1), (5, .ifCond .lt 25, 3), (8, .iload_n 1, 1), (9, .aload_n 0, 1), (10, .getfield 23, 3), (13, .if_icmp .gt 17, 3), (16, .iload_n 2, 1), (17, .aload_n 0, 1), (18, .getfield 23, 3), (21, .iload_n 1, 1), (22, .isub, 1), (23, .if_icmp .gt 7, 3), (26, .iconst 1, 1), (27, .goto 4, 3), (30, .iconst 0, 1), (31, .ireturn, 1)]
theorem kX4_has : dchk cX4_has pX4_has = true := by decide +kernel
def pX4_put : List (Nat × Instr × Nat) := [(0, .aload_n 0, 1), (1, .getfield 19, 3), (4, .lookupswitch 50 #[(0, 28), (1, 39)], 28), (32, .aload_n 0, 1), (33, .getfield 9, 3), (36, .iload_n 1, 1), (37, .iload_n 2, 1), (38, .i2b, 1), (39, .iastore, 1), (40, .goto 21, 3), (43, .aload_n 0, 1), (44, .getfield 9, 3), (47, .iload_n 1, 1), (48, .iload_n 2, 1), (49, .i2s, 1), (50, .iastore, 1), (51, .goto 10, 3), (54, .aload_n 0, 1), (55, .getfield 9, 3), (58, .iload_n 1, 1), (59, .iload_n 2, 1), (60, .iastore, 1), (61, .return_, 1)]
theorem kX4_put : dchk cX4_put pX4_put = true := by decide +kernel
def pX5_init : List (Nat × Instr × Nat) := [(0, .aload_n 0, 1), (1, .invokespecial 3, 3), (4, .aload_n 0, 1), (5, .bipush 12, 2), (7, .newarray .int, 2), (9, .putfield 9, 3), (12, .aload_n 0, 1), (13, .bipush 12, 2), (15, .newarray .int, 2), (17, .putfield 15, 3), (20, .aload_n 0, 1), (21, .bipush 12, 2), (23, .newarray .int, 2), (25, .putfield 18, 3), (28, .return_, 1)]
theorem kX5_init : dchk cX5_init pX5_init = true := by decide +kernel
def pX5_takeText : List (Nat × Instr × Nat) := [(0, .aload_n 0, 1), (1, .aload_n 1, 1), (2, .getfield 21, 3), (5, .putfield 27, 3), (8, .iconst 0, 1), (9, .istore_n 2, 1), (10, .iload_n 2, 1), (11, .aload_n 0, 1), (12, .getfield 27, 3), (15, .if_icmp .ge 45, 3), (18, .aload_n 0, 1), (19, .getfield 9, 3), (22, .iload_n 2, 1), (23, .aload_n 1, 1), (24, .iload_n 2, 1), (25, .iconst 0, 1), (26, .invokevirtual 30, 3), (29, .iastore, 1), (30, .aload_n 0, 1), (31, .getfield 15, 3), (34, .iload_n 2, 1), (35, .aload_n 1, 1), (36, .iload_n 2, 1), (37, .iconst 1, 1), (38, .invokevirtual 30, 3), (41, .iastore, 1), (42, .aload_n 0, 1), (43, .getfield 18, 3), (46, .iload_n 2, 1), (47, .aload_n 1, 1), (48, .iload_n 2, 1), (49, .iconst 2, 1), (50, .invokevirtual 30, 3), (53, .iastore, 1), (54, .iinc 2 1, 3), (57, .goto (-47), 3), (60, .return_, 1)]
theorem kX5_takeText : dchk cX5_takeText pX5_takeText = true := by decide +kernel
def pX5_takeFrom : List (Nat × Instr × Nat) := [(0, .aload_n 0, 1), (1, .aload_n 1, 1), (2, .getfield 27, 3), (5, .putfield 27, 3), (8, .aload_n 1, 1), (9, .getfield 9, 3), (12, .iconst 0, 1), (13, .aload_n 0, 1), (14, .getfield 9, 3), (17, .iconst 0, 1), (18, .aload_n 0, 1), (19, .getfield 27, 3), (22, .invokestatic 34, 3), (25, .aload_n 1, 1), (26, .getfield 15, 3), (29, .iconst 0, 1), (30, .aload_n 0, 1), (31, .getfield 15, 3), (34, .iconst 0, 1), (35, .aload_n 0, 1), (36, .getfield 27, 3), (39, .invokestatic 34, 3), (42, .aload_n 1, 1), (43, .getfield 18, 3), (46, .iconst 0, 1), (47, .aload_n 0, 1), (48, .getfield 18, 3), (51, .iconst 0, 1), (52, .aload_n 0, 1), (53, .getfield 27, 3), (56, .invokestatic 34, 3), (59, .return_, 1)]
theorem kX5_takeFrom : dchk cX5_takeFrom pX5_takeFrom = true := by decide +kernel
def pX5_tellShot : List (Nat × Instr × Nat) := [(0, .iload_n 2, 1), (1, .lookupswitch 41 #[(0, 27), (1, 34)], 27), (28, .aload_n 0, 1), (29, .getfield 9, 3), (32, .iload_n 1, 1), (33, .iaload, 1), (34, .ireturn, 1), (35, .aload_n 0, 1), (36, .getfield 15, 3), (39, .iload_n 1, 1), (40, .iaload, 1), (41, .ireturn, 1), (42, .aload_n 0, 1), (43, .getfield 18, 3), (46, .iload_n 1, 1), (47, .iaload, 1), (48, .ireturn, 1)]
theorem kX5_tellShot : dchk cX5_tellShot pX5_tellShot = true := by decide +kernel
def pX5_draw : List (Nat × Instr × Nat) := [(0, .aload_n 0, 1), (1, .iload_n 2, 1), (2, .putfield 27, 3), (5, .iload_n 1, 1), (6, .istore_n 3, 1), (7, .iconst 0, 1), (8, .istore 4, 2), (10, .iload 4, 2), (12, .iload_n 2, 1), (13, .if_icmp .ge 65, 3), (16, .iload_n 3, 1), (17, .invokestatic 40, 3), (20, .istore_n 3, 1), (21, .aload_n 0, 1), (22, .getfield 9, 3), (25, .iload 4, 2), (27, .iload_n 3, 1), (28, .bipush 16, 2), (30, .iushr, 1), (31, .bipush 24, 2), (33, .irem, 1), (34, .iastore, 1), (35, .iload_n 3, 1), (36, .invokestatic 40, 3), (39, .istore_n 3, 1), (40, .aload_n 0, 1), (41, .getfield 15, 3), (44, .iload 4, 2), (46, .iload_n 3, 1), (47, .bipush 16, 2), (49, .iushr, 1), (50, .iconst 3, 1), (51, .irem, 1), (52, .iastore, 1), (53, .iload_n 3, 1), (54, .invokestatic 40, 3), (57, .istore_n 3, 1), (58, .aload_n 0, 1), (59, .getfield 18, 3), (62, .iload 4, 2), (64, .iload_n 3, 1), (65, .bipush 16, 2), (67, .iushr, 1), (68, .bipush 6, 2), (70, .irem, 1), (71, .iastore, 1), (72, .iinc 4 1, 3), (75, .goto (-65), 3), (78, .return_, 1)]
theorem kX5_draw : dchk cX5_draw pX5_draw = true := by decide +kernel
def pX5_nextSeed : List (Nat × Instr × Nat) := [(0, .ldc 44, 2), (2, .iload_n 0, 1), (3, .imul, 1), (4, .sipush 12345, 3), (7, .iadd, 1), (8, .ireturn, 1)]
theorem kX5_nextSeed : dchk cX5_nextSeed pX5_nextSeed = true := by decide +kernel
def pX6_init : List (Nat × Instr × Nat) := [(0, .aload_n 0, 1), (1, .invokespecial 3, 3), (4, .aload_n 0, 1), (5, .iconst 3, 1), (6, .newarray .int, 2), (8, .putfield 9, 3), (11, .aload_n 0, 1), (12, .bipush 12, 2), (14, .newarray .int, 2), (16, .putfield 15, 3), (19, .aload_n 0, 1), (20, .bipush 12, 2), (22, .newarray .int, 2), (24, .putfield 18, 3), (27, .aload_n 0, 1), (28, .bipush 12, 2), (30, .newarray .int, 2), (32, .putfield 21, 3), (35, .aload_n 0, 1), (36, .bipush 12, 2), (38, .newarray .int, 2), (40, .putfield 24, 3), (43, .aload_n 0, 1), (44, .bipush 36, 2), (46, .newarray .int, 2), (48, .putfield 27, 3), (51, .aload_n 0, 1), (52, .bipush 36, 2), (54, .newarray .int, 2), (56, .putfield 30, 3), (59, .return_, 1)]
theorem kX6_init : dchk cX6_init pX6_init = true := by decide +kernel
def pX6_arrange : List (Nat × Instr × Nat) := [(0, .iconst 0, 1), (1, .istore_n 3, 1), (2, .iload_n 3, 1), (3, .iconst 3, 1), (4, .if_icmp .ge 32, 3), (7, .aload_n 0, 1), (8, .getfield 9, 3), (11, .iload_n 3, 1), (12, .iload_n 3, 1), (13, .aload_n 1, 1), (14, .getfield 33, 3), (17, .if_icmp .ge 11, 3), (20, .aload_n 1, 1), (21, .iload_n 3, 1), (22, .invokestatic 39, 3), (25, .goto 4, 3), (28, .iconst 1, 1), (29, .iastore, 1), (30, .iinc 3 1, 3), (33, .goto (-31), 3), (36, .aload_n 0, 1), (37, .getfield 27, 3), (40, .iconst (-1), 1), (41, .invokestatic 43, 3), (44, .aload_n 0, 1), (45, .getfield 30, 3), (48, .iconst 0, 1), (49, .invokestatic 43, 3), (52, .aload_n 0, 1), (53, .aload_n 2, 1), (54, .getfield 33, 3), (57, .putfield 49, 3), (60, .iconst 0, 1), (61, .istore_n 3, 1), (62, .iload_n 3, 1), (63, .aload_n 0, 1), (64, .getfield 49, 3), (67, .if_icmp .ge 86, 3), (70, .aload_n 0, 1), (71, .getfield 15, 3), (74, .iload_n 3, 1), (75, .aload_n 2, 1), (76, .iload_n 3, 1), (77, .iconst 0, 1), (78, .invokevirtual 52, 3), (81, .iastore, 1), (82, .aload_n 0, 1), (83, .getfield 18, 3), (86, .iload_n 3, 1), (87, .aload_n 2, 1), (88, .iload_n 3, 1), (89, .iconst 1, 1), (90, .invokevirtual 52, 3), (93, .iastore, 1), (94, .aload_n 0, 1), (95, .getfield 21, 3), (98, .iload_n 3, 1), (99, .aload_n 2, 1), (100, .iload_n 3, 1), (101, .iconst 2, 1), (102, .invokevirtual 52, 3), (105, .iastore, 1), (106, .aload_n 0, 1), (107, .getfield 24, 3), (110, .iload_n 3, 1), (111, .aload_n 2, 1), (112, .iload_n 3, 1), (113, .iconst 3, 1), (114, .invokevirtual 52, 3), (117, .iconst 1, 1), (118, .iadd, 1), (119, .iastore, 1), (120, .aload_n 0, 1), (121, .getfield 27, 3), (124, .aload_n 0, 1), (125, .getfield 15, 3), (128, .iload_n 3, 1), (129, .iaload, 1), (130, .bipush 12, 2), (132, .imul, 1), (133, .aload_n 0, 1), (134, .getfield 18, 3), (137, .iload_n 3, 1), (138, .iaload, 1), (139, .iadd, 1), (140, .iload_n 3, 1), (141, .iastore, 1), (142, .aload_n 0, 1), (143, .iload_n 3, 1), (144, .invokevirtual 56, 3), (147, .iinc 3 1, 3), (150, .goto (-88), 3), (153, .return_, 1)]
theorem kX6_arrange : dchk cX6_arrange pX6_arrange = true := by decide +kernel
def pX6_tellDuck : List (Nat × Instr × Nat) := [(0, .iload_n 2, 1), (1, .tableswitch 48 0 2 #[27, 34, 41], 27), (28, .aload_n 0, 1), (29, .getfield 15, 3), (32, .iload_n 1, 1), (33, .iaload, 1), (34, .ireturn, 1), (35, .aload_n 0, 1), (36, .getfield 18, 3), (39, .iload_n 1, 1), (40, .iaload, 1), (41, .ireturn, 1), (42, .aload_n 0, 1), (43, .getfield 21, 3), (46, .iload_n 1, 1), (47, .iaload, 1), (48, .ireturn, 1), (49, .aload_n 0, 1), (50, .getfield 24, 3), (53, .iload_n 1, 1), (54, .iaload, 1), (55, .ireturn, 1)]
theorem kX6_tellDuck : dchk cX6_tellDuck pX6_tellDuck = true := by decide +kernel
def pX6_speedTold : List (Nat × Instr × Nat) := [(0, .aload_n 0, 1), (1, .iload_n 1, 1), (2, .iconst 1, 1), (3, .invokevirtual 52, 3), (6, .istore_n 2, 1), (7, .aload_n 0, 1), (8, .iload_n 1, 1), (9, .iconst 0, 1), (10, .invokevirtual 52, 3), (13, .ifCond .ne 7, 3), (16, .iload_n 2, 1), (17, .goto 5, 3), (20, .iload_n 2, 1), (21, .ineg, 1), (22, .ireturn, 1)]
theorem kX6_speedTold : dchk cX6_speedTold pX6_speedTold = true := by decide +kernel
def pX6_noteHidden : List (Nat × Instr × Nat) := [(0, .iconst 0, 1), (1, .istore_n 2, 1), (2, .iload_n 2, 1), (3, .bipush 12, 2), (5, .if_icmp .ge 47, 3), (8, .aload_n 0, 1), (9, .getfield 18, 3), (12, .iload_n 1, 1), (13, .iaload, 1), (14, .iload_n 2, 1), (15, .iadd, 1), (16, .bipush 12, 2), (18, .irem, 1), (19, .bipush 6, 2), (21, .if_icmp .lt 25, 3), (24, .aload_n 0, 1), (25, .getfield 30, 3), (28, .aload_n 0, 1), (29, .getfield 15, 3), (32, .iload_n 1, 1), (33, .iaload, 1), (34, .bipush 12, 2), (36, .imul, 1), (37, .iload_n 2, 1), (38, .iadd, 1), (39, .dup2, 1), (40, .iaload, 1), (41, .iconst 1, 1), (42, .iload_n 1, 1), (43, .ishl, 1), (44, .ior, 1), (45, .iastore, 1), (46, .iinc 2 1, 3), (49, .goto (-47), 3), (52, .return_, 1)]
theorem kX6_noteHidden : dchk cX6_noteHidden pX6_noteHidden = true := by decide +kernel
def pX7_init : List (Nat × Instr × Nat) := [(0, .aload_n 0, 1), (1, .invokespecial 3, 3), (4, .aload_n 0, 1), (5, .iload_n 1, 1), (6, .putfield 9, 3), (9, .aload_n 0, 1), (10, .iload_n 3, 1), (11, .putfield 15, 3), (14, .aload_n 0, 1), (15, .iload 4, 2), (17, .putfield 18, 3), (20, .aload_n 0, 1), (21, .iload_n 2, 1), (22, .newarray .int, 2), (24, .putfield 21, 3), (27, .aload_n 0, 1), (28, .iload 4, 2), (30, .iload_n 3, 1), (31, .imul, 1), (32, .newarray .int, 2), (34, .putfield 25, 3), (37, .aload_n 0, 1), (38, .iconst (-1), 1), (39, .putfield 28, 3), (42, .return_, 1)]
theorem kX7_init : dchk cX7_init pX7_init = true := by decide +kernel
def pX7_isFull : List (Nat × Instr × Nat) := [(0, .aload_n 0, 1), (1, .getfield 31, 3), (4, .aload_n 0, 1), (5, .getfield 21, 3), (8, .arraylength, 1), (9, .if_icmp .lt 7, 3), (12, .iconst 1, 1), (13, .goto 4, 3), (16, .iconst 0, 1), (17, .ireturn, 1)]
theorem kX7_isFull : dchk cX7_isFull pX7_isFull = true := by decide +kernel
def pX7_append : List (Nat × Instr × Nat) := [(0, .aload_n 0, 1), (1, .getfield 21, 3), (4, .aload_n 0, 1), (5, .getfield 31, 3), (8, .iload_n 1, 1), (9, .iastore, 1), (10, .aload_n 0, 1), (11, .dup, 1), (12, .getfield 31, 3), (15, .iconst 1, 1), (16, .iadd, 1), (17, .putfield 31, 3), (20, .return_, 1)]
theorem kX7_append : dchk cX7_append pX7_append = true := by decide +kernel
def pX7_value : List (Nat × Instr × Nat) := [(0, .aload_n 0, 1), (1, .getfield 25, 3), (4, .iload_n 1, 1), (5, .aload_n 0, 1), (6, .getfield 15, 3), (9, .imul, 1), (10, .iload_n 2, 1), (11, .iadd, 1), (12, .iaload, 1), (13, .ireturn, 1)]
theorem kX7_value : dchk cX7_value pX7_value = true := by decide +kernel
def pX7_examine : List (Nat × Instr × Nat) := [(0, .aload_n 0, 1), (1, .aload_n 0, 1), (2, .invokevirtual 34, 3), (5, .putfield 28, 3), (8, .aload_n 0, 1), (9, .aload_n 0, 1), (10, .getfield 28, 3), (13, .iconst (-1), 1), (14, .if_icmp .ne 19, 3), (17, .aload_n 0, 1), (18, .getfield 31, 3), (21, .iconst 1, 1), (22, .iadd, 1), (23, .aload_n 0, 1), (24, .getfield 15, 3), (27, .iconst 1, 1), (28, .iadd, 1), (29, .idiv, 1), (30, .goto 4, 3), (33, .iconst 0, 1), (34, .putfield 38, 3), (37, .return_, 1)]
theorem kX7_examine : dchk cX7_examine pX7_examine = true := by decide +kernel
def pX7_firstFault : List (Nat × Instr × Nat) := [(0, .iconst 0, 1), (1, .istore_n 1, 1), (2, .iload_n 1, 1), (3, .aload_n 0, 1), (4, .getfield 31, 3), (7, .if_icmp .ge 19, 3), (10, .aload_n 0, 1), (11, .iload_n 1, 1), (12, .invokevirtual 41, 3), (15, .ifCond .ne 5, 3), (18, .iload_n 1, 1), (19, .ireturn, 1), (20, .iinc 1 1, 3), (23, .goto (-21), 3), (26, .aload_n 0, 1), (27, .getfield 31, 3), (30, .ifCond .eq 21, 3), (33, .aload_n 0, 1), (34, .getfield 31, 3), (37, .aload_n 0, 1), (38, .getfield 15, 3), (41, .iconst 1, 1), (42, .iadd, 1), (43, .irem, 1), (44, .aload_n 0, 1), (45, .getfield 15, 3), (48, .if_icmp .ne 7, 3), (51, .iconst 1, 1), (52, .goto 4, 3), (55, .iconst 0, 1), (56, .istore_n 1, 1), (57, .iload_n 1, 1), (58, .ifCond .eq 7, 3), (61, .iconst (-1), 1), (62, .goto 7, 3), (65, .aload_n 0, 1), (66, .getfield 31, 3), (69, .ireturn, 1)]
theorem kX7_firstFault : dchk cX7_firstFault pX7_firstFault = true := by decide +kernel
def pX7_goesOn : List (Nat × Instr × Nat) := [(0, .iload_n 1, 1), (1, .aload_n 0, 1), (2, .getfield 15, 3), (5, .iconst 1, 1), (6, .iadd, 1), (7, .idiv, 1), (8, .istore_n 2, 1), (9, .iload_n 1, 1), (10, .aload_n 0, 1), (11, .getfield 15, 3), (14, .iconst 1, 1), (15, .iadd, 1), (16, .irem, 1), (17, .istore_n 3, 1), (18, .iload_n 3, 1), (19, .aload_n 0, 1), (20, .getfield 15, 3), (23, .if_icmp .ne 20, 3), (26, .aload_n 0, 1), (27, .getfield 21, 3), (30, .iload_n 1, 1), (31, .iaload, 1), (32, .bipush 59, 2), (34, .if_icmp .ne 7, 3), (37, .iconst 1, 1), (38, .goto 4, 3), (41, .iconst 0, 1), (42, .ireturn, 1), (43, .iload_n 2, 1), (44, .aload_n 0, 1), (45, .getfield 18, 3), (48, .if_icmp .lt 5, 3), (51, .iconst 0, 1), (52, .ireturn, 1), (53, .aload_n 0, 1), (54, .iload_n 3, 1), (55, .invokevirtual 45, 3), (58, .aload_n 0, 1), (59, .getfield 21, 3), (62, .iload_n 1, 1), (63, .iaload, 1), (64, .i2c, 1), (65, .invokevirtual 49, 3), (68, .istore 4, 2), (70, .aload_n 0, 1), (71, .getfield 25, 3), (74, .iload_n 2, 1), (75, .aload_n 0, 1), (76, .getfield 15, 3), (79, .imul, 1), (80, .iload_n 3, 1), (81, .iadd, 1), (82, .iload 4, 2), (84, .iastore, 1), (85, .iload 4, 2), (87, .ifCond .lt 28, 3), (90, .aload_n 0, 1), (91, .getfield 9, 3), (94, .iconst 1, 1), (95, .if_icmp .ne 16, 3), (98, .iload_n 3, 1), (99, .iconst 1, 1), (100, .if_icmp .ne 11, 3), (103, .aload_n 0, 1), (104, .iload_n 2, 1), (105, .invokevirtual 55, 3), (108, .ifCond .ne 7, 3), (111, .iconst 1, 1), (112, .goto 4, 3), (115, .iconst 0, 1), (116, .ireturn, 1)]
theorem kX7_goesOn : dchk cX7_goesOn pX7_goesOn = true := by decide +kernel
def pX7_isTaken : List (Nat × Instr × Nat) := [(0, .iconst 0, 1), (1, .istore_n 2, 1), (2, .iload_n 2, 1), (3, .iload_n 1, 1), (4, .if_icmp .ge 41, 3), (7, .aload_n 0, 1), (8, .iload_n 2, 1), (9, .iconst 0, 1), (10, .invokevirtual 58, 3), (13, .aload_n 0, 1), (14, .iload_n 1, 1), (15, .iconst 0, 1), (16, .invokevirtual 58, 3), (19, .if_icmp .ne 20, 3), (22, .aload_n 0, 1), (23, .iload_n 2, 1), (24, .iconst 1, 1), (25, .invokevirtual 58, 3), (28, .aload_n 0, 1), (29, .iload_n 1, 1), (30, .iconst 1, 1), (31, .invokevirtual 58, 3), (34, .if_icmp .ne 5, 3), (37, .iconst 1, 1), (38, .ireturn, 1), (39, .iinc 2 1, 3), (42, .goto (-40), 3), (45, .iconst 0, 1), (46, .ireturn, 1)]
theorem kX7_isTaken : dchk cX7_isTaken pX7_isTaken = true := by decide +kernel
def pX7_signs : List (Nat × Instr × Nat) := [(0, .aload_n 0, 1), (1, .getfield 9, 3), (4, .iconst 4, 1), (5, .imul, 1), (6, .iload_n 1, 1), (7, .iadd, 1), (8, .tableswitch 80 0 9 #[56, 59, 80, 80, 62, 65, 68, 71, 74, 77], 56), (64, .ldc 62, 2), (66, .areturn, 1), (67, .ldc 64, 2), (69, .areturn, 1), (70, .ldc 66, 2), (72, .areturn, 1), (73, .ldc 68, 2), (75, .areturn, 1), (76, .ldc 70, 2), (78, .areturn, 1), (79, .ldc 72, 2), (81, .areturn, 1), (82, .ldc 74, 2), (84, .areturn, 1), (85, .ldc 66, 2), (87, .areturn, 1), (88, .ldc 76, 2), (90, .areturn, 1)]
theorem kX7_signs : dchk cX7_signs pX7_signs = true := by decide +kernel
def pX8_init : List (Nat × Instr × Nat) := [(0, .aload_n 0, 1), (1, .invokespecial 1, 3), (4, .aload_n 0, 1), (5, .iconst 3, 1), (6, .anewarray 9, 3), (9, .putfield 11, 3), (12, .aload_n 0, 1), (13, .new 15, 3), (16, .dup, 1), (17, .invokespecial 17, 3), (20, .putfield 18, 3), (23, .aload_n 0, 1), (24, .new 22, 3), (27, .dup, 1), (28, .invokespecial 24, 3), (31, .putfield 25, 3), (34, .aload_n 0, 1), (35, .new 29, 3), (38, .dup, 1), (39, .aload_n 0, 1), (40, .getfield 18, 3), (43, .aload_n 0, 1), (44, .getfield 25, 3), (47, .invokespecial 31, 3), (50, .putfield 34, 3), (53, .aload_n 0, 1), (54, .new 29, 3), (57, .dup, 1), (58, .aload_n 0, 1), (59, .getfield 18, 3), (62, .aload_n 0, 1), (63, .getfield 25, 3), (66, .invokespecial 31, 3), (69, .putfield 38, 3), (72, .aload_n 0, 1), (73, .new 41, 3), (76, .dup, 1), (77, .aload_n 0, 1), (78, .getfield 18, 3), (81, .aload_n 0, 1), (82, .getfield 34, 3), (85, .invokespecial 43, 3), (88, .putfield 46, 3), (91, .aload_n 0, 1), (92, .new 41, 3), (95, .dup, 1), (96, .aload_n 0, 1), (97, .getfield 18, 3), (100, .aload_n 0, 1), (101, .getfield 34, 3), (104, .invokespecial 43, 3), (107, .putfield 50, 3), (110, .aload_n 0, 1), (111, .new 53, 3), (114, .dup, 1), (115, .invokespecial 55, 3), (118, .putfield 56, 3), (121, .aload_n 0, 1), (122, .iconst 4, 1), (123, .anewarray 60, 3), (126, .putfield 62, 3), (129, .aload_n 0, 1), (130, .bipush 108, 2), (132, .newarray .int, 2), (134, .putfield 66, 3), (137, .aload_n 0, 1), (138, .bipush 120, 2), (140, .newarray .int, 2), (142, .putfield 70, 3), (145, .aload_n 0, 1), (146, .getfield 11, 3), (149, .iconst 0, 1), (150, .new 9, 3), (153, .dup, 1), (154, .iconst 0, 1), (155, .bipush 8, 2), (157, .iconst 2, 1), (158, .iconst 3, 1), (159, .invokespecial 73, 3), (162, .aastore, 1), (163, .aload_n 0, 1), (164, .getfield 11, 3), (167, .iconst 1, 1), (168, .new 9, 3), (171, .dup, 1), (172, .iconst 1, 1), (173, .bipush 59, 2), (175, .iconst 4, 1), (176, .bipush 12, 2), (178, .invokespecial 73, 3), (181, .aastore, 1), (182, .aload_n 0, 1), (183, .getfield 11, 3), (186, .iconst 2, 1), (187, .new 9, 3), (190, .dup, 1), (191, .iconst 2, 1), (192, .bipush 47, 2), (194, .iconst 3, 1), (195, .bipush 12, 2), (197, .invokespecial 73, 3), (200, .aastore, 1), (201, .iconst 0, 1), (202, .istore_n 1, 1), (203, .iload_n 1, 1), (204, .iconst 4, 1), (205, .if_icmp .ge 22, 3), (208, .aload_n 0, 1), (209, .getfield 62, 3), (212, .iload_n 1, 1), (213, .new 60, 3), (216, .dup, 1), (217, .invokespecial 76, 3), (220, .aastore, 1), (221, .iinc 1 1, 3), (224, .goto (-21), 3), (227, .return_, 1)]
theorem kX8_init : dchk cX8_init pX8_init = true := by decide +kernel
def pX8_type : List (Nat × Instr × Nat) := [(0, .iload_n 1, 1), (1, .iconst 3, 1), (2, .invokestatic 77, 3), (5, .ifCond .eq 13, 3), (8, .iload_n 2, 1), (9, .sipush 256, 3), (12, .invokestatic 77, 3), (15, .ifCond .ne 6, 3), (18, .bipush (-2), 2), (20, .ireturn, 1), (21, .aload_n 0, 1), (22, .getfield 11, 3), (25, .iload_n 1, 1), (26, .aaload, 1), (27, .invokevirtual 81, 3), (30, .ifCond .eq 6, 3), (33, .bipush (-4), 2), (35, .ireturn, 1), (36, .aload_n 0, 1), (37, .getfield 11, 3), (40, .iload_n 1, 1), (41, .aaload, 1), (42, .iload_n 2, 1), (43, .invokevirtual 85, 3), (46, .aload_n 0, 1), (47, .iconst 0, 1), (48, .putfield 89, 3), (51, .aload_n 0, 1), (52, .getfield 11, 3), (55, .iload_n 1, 1), (56, .aaload, 1), (57, .getfield 93, 3), (60, .ireturn, 1)]
theorem kX8_type : dchk cX8_type pX8_type = true := by decide +kernel
def pX8_wipe : List (Nat × Instr × Nat) := [(0, .iload_n 1, 1), (1, .iconst 3, 1), (2, .invokestatic 77, 3), (5, .ifCond .ne 6, 3), (8, .bipush (-2), 2), (10, .ireturn, 1), (11, .aload_n 0, 1), (12, .getfield 11, 3), (15, .iload_n 1, 1), (16, .aaload, 1), (17, .getfield 93, 3), (20, .istore_n 2, 1), (21, .aload_n 0, 1), (22, .getfield 11, 3), (25, .iload_n 1, 1), (26, .aaload, 1), (27, .iconst 0, 1), (28, .putfield 93, 3), (31, .aload_n 0, 1), (32, .iconst 0, 1), (33, .putfield 89, 3), (36, .iload_n 2, 1), (37, .ireturn, 1)]
theorem kX8_wipe : dchk cX8_wipe pX8_wipe = true := by decide +kernel
def pX8_undo : List (Nat × Instr × Nat) := [(0, .iload_n 1, 1), (1, .iconst 3, 1), (2, .invokestatic 77, 3), (5, .ifCond .ne 6, 3), (8, .bipush (-2), 2), (10, .ireturn, 1), (11, .aload_n 0, 1), (12, .getfield 11, 3), (15, .iload_n 1, 1), (16, .aaload, 1), (17, .getfield 93, 3), (20, .ifCond .ne 6, 3), (23, .bipush (-3), 2), (25, .ireturn, 1), (26, .aload_n 0, 1), (27, .getfield 11, 3), (30, .iload_n 1, 1), (31, .aaload, 1), (32, .dup, 1), (33, .getfield 93, 3), (36, .iconst 1, 1), (37, .isub, 1), (38, .putfield 93, 3), (41, .aload_n 0, 1), (42, .iconst 0, 1), (43, .putfield 89, 3), (46, .aload_n 0, 1), (47, .getfield 11, 3), (50, .iload_n 1, 1), (51, .aaload, 1), (52, .getfield 93, 3), (55, .ireturn, 1)]
theorem kX8_undo : dchk cX8_undo pX8_undo = true := by decide +kernel
def pX8_fault : List (Nat × Instr × Nat) := [(0, .iload_n 1, 1), (1, .iconst 3, 1), (2, .invokestatic 77, 3), (5, .ifCond .ne 6, 3), (8, .bipush (-2), 2), (10, .ireturn, 1), (11, .aload_n 0, 1), (12, .invokevirtual 97, 3), (15, .aload_n 0, 1), (16, .getfield 11, 3), (19, .iload_n 1, 1), (20, .aaload, 1), (21, .getfield 100, 3), (24, .ireturn, 1)]
theorem kX8_fault : dchk cX8_fault pX8_fault = true := by decide +kernel
def pX8_chain : List (Nat × Instr × Nat) := [(0, .iload_n 1, 1), (1, .iconst 3, 1), (2, .invokestatic 77, 3), (5, .ifCond .ne 6, 3), (8, .ldc 103, 2), (10, .ireturn, 1), (11, .aload_n 0, 1), (12, .invokevirtual 97, 3), (15, .aload_n 0, 1), (16, .getfield 18, 3), (19, .getfield 104, 3), (22, .iload_n 1, 1), (23, .iaload, 1), (24, .ireturn, 1)]
theorem kX8_chain : dchk cX8_chain pX8_chain = true := by decide +kernel
def pX8_duck : List (Nat × Instr × Nat) := [(0, .aload_n 0, 1), (1, .invokevirtual 97, 3), (4, .aload_n 0, 1), (5, .iload_n 1, 1), (6, .invokevirtual 107, 3), (9, .ifCond .eq 11, 3), (12, .iload_n 2, 1), (13, .iconst 4, 1), (14, .invokestatic 77, 3), (17, .ifCond .ne 6, 3), (20, .bipush (-2), 2), (22, .ireturn, 1), (23, .aload_n 0, 1), (24, .getfield 18, 3), (27, .iload_n 1, 1), (28, .iload_n 2, 1), (29, .invokevirtual 111, 3), (32, .ireturn, 1)]
theorem kX8_duck : dchk cX8_duck pX8_duck = true := by decide +kernel
def pX8_shot : List (Nat × Instr × Nat) := [(0, .aload_n 0, 1), (1, .invokevirtual 97, 3), (4, .aload_n 0, 1), (5, .iload_n 1, 1), (6, .invokevirtual 115, 3), (9, .ifCond .eq 11, 3), (12, .iload_n 2, 1), (13, .iconst 3, 1), (14, .invokestatic 77, 3), (17, .ifCond .ne 6, 3), (20, .bipush (-2), 2), (22, .ireturn, 1), (23, .aload_n 0, 1), (24, .getfield 46, 3), (27, .getfield 118, 3), (30, .iload_n 1, 1), (31, .iload_n 2, 1), (32, .invokevirtual 122, 3), (35, .ireturn, 1)]
theorem kX8_shot : dchk cX8_shot pX8_shot = true := by decide +kernel
def pX8_rifle : List (Nat × Instr × Nat) := [(0, .iload_n 1, 1), (1, .iconst 2, 1), (2, .invokestatic 77, 3), (5, .ifCond .eq 19, 3), (8, .iload_n 2, 1), (9, .iload_n 1, 1), (10, .ifCond .ne 7, 3), (13, .iconst 5, 1), (14, .goto 4, 3), (17, .iconst 4, 1), (18, .invokestatic 77, 3), (21, .ifCond .ne 6, 3), (24, .bipush (-2), 2), (26, .ireturn, 1), (27, .iload_n 1, 1), (28, .ifCond .ne 13, 3), (31, .aload_n 0, 1), (32, .getfield 46, 3), (35, .getfield 127, 3), (38, .goto 10, 3), (41, .aload_n 0, 1), (42, .getfield 46, 3), (45, .getfield 130, 3), (48, .istore_n 3, 1), (49, .iload_n 1, 1), (50, .ifCond .ne 14, 3), (53, .aload_n 0, 1), (54, .getfield 46, 3), (57, .iload_n 2, 1), (58, .putfield 127, 3), (61, .goto 11, 3), (64, .aload_n 0, 1), (65, .getfield 46, 3), (68, .iload_n 2, 1), (69, .putfield 130, 3), (72, .aload_n 0, 1), (73, .iconst 0, 1), (74, .putfield 89, 3), (77, .iload_n 3, 1), (78, .ireturn, 1)]
theorem kX8_rifle : dchk cX8_rifle pX8_rifle = true := by decide +kernel
def pX8_event : List (Nat × Instr × Nat) := [(0, .iload_n 1, 1), (1, .iload_n 2, 1), (2, .iload_n 3, 1), (3, .invokestatic 133, 3), (6, .ifCond .ne 6, 3), (9, .bipush (-2), 2), (11, .ireturn, 1), (12, .aload_n 0, 1), (13, .getfield 25, 3), (16, .invokevirtual 137, 3), (19, .ifCond .eq 6, 3), (22, .bipush (-4), 2), (24, .ireturn, 1), (25, .aload_n 0, 1), (26, .getfield 25, 3), (29, .iload_n 1, 1), (30, .iload_n 2, 1), (31, .iload_n 3, 1), (32, .invokevirtual 138, 3), (35, .aload_n 0, 1), (36, .iconst 0, 1), (37, .putfield 89, 3), (40, .aload_n 0, 1), (41, .getfield 25, 3), (44, .getfield 141, 3), (47, .ireturn, 1)]
theorem kX8_event : dchk cX8_event pX8_event = true := by decide +kernel
def pX8_back : List (Nat × Instr × Nat) := [(0, .aload_n 0, 1), (1, .getfield 25, 3), (4, .getfield 141, 3), (7, .ifCond .ne 6, 3), (10, .bipush (-3), 2), (12, .ireturn, 1), (13, .aload_n 0, 1), (14, .getfield 25, 3), (17, .invokevirtual 144, 3), (20, .aload_n 0, 1), (21, .iconst 0, 1), (22, .putfield 89, 3), (25, .aload_n 0, 1), (26, .getfield 25, 3), (29, .getfield 141, 3), (32, .ireturn, 1)]
theorem kX8_back : dchk cX8_back pX8_back = true := by decide +kernel
def pX8_read : List (Nat × Instr × Nat) := [(0, .aload_n 0, 1), (1, .iload_n 1, 1), (2, .invokevirtual 147, 3), (5, .istore_n 2, 1), (6, .iload_n 2, 1), (7, .ifCond .eq 5, 3), (10, .iload_n 2, 1), (11, .ireturn, 1), (12, .aload_n 0, 1), (13, .getfield 62, 3), (16, .iload_n 1, 1), (17, .aaload, 1), (18, .astore_n 3, 1), (19, .iconst 0, 1), (20, .istore 4, 2), (22, .iconst 0, 1), (23, .istore 5, 2), (25, .iload 5, 2), (27, .iconst 2, 1), (28, .iadd, 1), (29, .aload_n 3, 1), (30, .getfield 151, 3), (33, .if_icmp .ge 51, 3), (36, .aload_n 0, 1), (37, .aload_n 3, 1), (38, .getfield 152, 3), (41, .iload 5, 2), (43, .iaload, 1), (44, .aload_n 3, 1), (45, .getfield 152, 3), (48, .iload 5, 2), (50, .iconst 1, 1), (51, .iadd, 1), (52, .iaload, 1), (53, .aload_n 3, 1), (54, .getfield 152, 3), (57, .iload 5, 2), (59, .iconst 2, 1), (60, .iadd, 1), (61, .iaload, 1), (62, .invokevirtual 155, 3), (65, .istore 6, 2), (67, .iload 6, 2), (69, .ifCond .ge 6, 3), (72, .goto 12, 3), (75, .iinc 4 1, 3), (78, .iinc 5 3, 3), (81, .goto (-56), 3), (84, .iload 4, 2), (86, .ireturn, 1)]
theorem kX8_read : dchk cX8_read pX8_read = true := by decide +kernel
def pX8_at : List (Nat × Instr × Nat) := [(0, .aload_n 0, 1), (1, .invokevirtual 97, 3), (4, .iload_n 1, 1), (5, .bipush 24, 2), (7, .invokestatic 77, 3), (10, .ifCond .eq 19, 3), (13, .aload_n 0, 1), (14, .iload_n 2, 1), (15, .invokevirtual 107, 3), (18, .ifCond .eq 11, 3), (21, .iload_n 3, 1), (22, .iconst 3, 1), (23, .invokestatic 77, 3), (26, .ifCond .ne 6, 3), (29, .bipush (-2), 2), (31, .ireturn, 1), (32, .aload_n 0, 1), (33, .getfield 46, 3), (36, .iload_n 1, 1), (37, .iload_n 2, 1), (38, .iload_n 3, 1), (39, .invokevirtual 159, 3), (42, .ireturn, 1)]
theorem kX8_at : dchk cX8_at pX8_at = true := by decide +kernel
def pX8_sees : List (Nat × Instr × Nat) := [(0, .iload_n 1, 1), (1, .bipush 24, 2), (3, .invokestatic 77, 3), (6, .ifCond .eq 20, 3), (9, .iload_n 2, 1), (10, .iconst 3, 1), (11, .invokestatic 77, 3), (14, .ifCond .eq 12, 3), (17, .iload_n 3, 1), (18, .bipush 12, 2), (20, .invokestatic 77, 3), (23, .ifCond .ne 6, 3), (26, .bipush (-2), 2), (28, .ireturn, 1), (29, .aload_n 0, 1), (30, .invokevirtual 97, 3), (33, .aload_n 0, 1), (34, .getfield 34, 3), (37, .iload_n 1, 1), (38, .iload_n 2, 1), (39, .iload_n 3, 1), (40, .invokevirtual 162, 3), (43, .ireturn, 1)]
theorem kX8_sees : dchk cX8_sees pX8_sees = true := by decide +kernel
def pX8_down : List (Nat × Instr × Nat) := [(0, .iload_n 1, 1), (1, .bipush 24, 2), (3, .invokestatic 77, 3), (6, .ifCond .ne 6, 3), (9, .bipush (-2), 2), (11, .ireturn, 1), (12, .aload_n 0, 1), (13, .invokevirtual 97, 3), (16, .aload_n 0, 1), (17, .getfield 46, 3), (20, .getfield 165, 3), (23, .iload_n 1, 1), (24, .iaload, 1), (25, .invokestatic 168, 3), (28, .ireturn, 1)]
theorem kX8_down : dchk cX8_down pX8_down = true := by decide +kernel
def pX8_hits : List (Nat × Instr × Nat) := [(0, .aload_n 0, 1), (1, .invokevirtual 97, 3), (4, .aload_n 0, 1), (5, .iload_n 1, 1), (6, .invokevirtual 115, 3), (9, .ifCond .eq 11, 3), (12, .iload_n 2, 1), (13, .iconst 3, 1), (14, .invokestatic 77, 3), (17, .ifCond .ne 6, 3), (20, .bipush (-2), 2), (22, .ireturn, 1), (23, .aload_n 0, 1), (24, .getfield 46, 3), (27, .iload_n 1, 1), (28, .iload_n 2, 1), (29, .invokevirtual 173, 3), (32, .ireturn, 1)]
theorem kX8_hits : dchk cX8_hits pX8_hits = true := by decide +kernel
def pX8_sum : List (Nat × Instr × Nat) := [(0, .iload_n 1, 1), (1, .iconst 3, 1), (2, .invokestatic 77, 3), (5, .ifCond .ne 6, 3), (8, .bipush (-2), 2), (10, .ireturn, 1), (11, .aload_n 0, 1), (12, .invokevirtual 97, 3), (15, .aload_n 0, 1), (16, .getfield 46, 3), (19, .iload_n 1, 1), (20, .invokevirtual 176, 3), (23, .ireturn, 1)]
theorem kX8_sum : dchk cX8_sum pX8_sum = true := by decide +kernel
def pX8_run : List (Nat × Instr × Nat) := [(0, .iload_n 1, 1), (1, .iconst 2, 1), (2, .invokestatic 77, 3), (5, .ifCond .ne 6, 3), (8, .bipush (-2), 2), (10, .ireturn, 1), (11, .aload_n 0, 1), (12, .invokevirtual 97, 3), (15, .aload_n 0, 1), (16, .invokevirtual 179, 3), (19, .iload_n 1, 1), (20, .ifCond .ne 10, 3), (23, .aload_n 0, 1), (24, .getfield 182, 3), (27, .goto 7, 3), (30, .aload_n 0, 1), (31, .getfield 185, 3), (34, .ireturn, 1)]
theorem kX8_run : dchk cX8_run pX8_run = true := by decide +kernel
def pX8_easy : List (Nat × Instr × Nat) := [(0, .aload_n 0, 1), (1, .invokevirtual 97, 3), (4, .aload_n 0, 1), (5, .invokevirtual 188, 3), (8, .ireturn, 1)]
theorem kX8_easy : dchk cX8_easy pX8_easy = true := by decide +kernel
def pX8_safe : List (Nat × Instr × Nat) := [(0, .aload_n 0, 1), (1, .invokevirtual 97, 3), (4, .aload_n 0, 1), (5, .invokevirtual 192, 3), (8, .ireturn, 1)]
theorem kX8_safe : dchk cX8_safe pX8_safe = true := by decide +kernel
def pX8_aim : List (Nat × Instr × Nat) := [(0, .aload_n 0, 1), (1, .invokevirtual 97, 3), (4, .aload_n 0, 1), (5, .iload_n 1, 1), (6, .invokevirtual 115, 3), (9, .ifCond .eq 11, 3), (12, .iload_n 2, 1), (13, .iconst 2, 1), (14, .invokestatic 77, 3), (17, .ifCond .ne 6, 3), (20, .bipush (-2), 2), (22, .ireturn, 1), (23, .aload_n 0, 1), (24, .iload_n 1, 1), (25, .invokevirtual 195, 3), (28, .iload_n 2, 1), (29, .ifCond .ne 10, 3), (32, .aload_n 0, 1), (33, .getfield 185, 3), (36, .goto 7, 3), (39, .aload_n 0, 1), (40, .getfield 182, 3), (43, .ireturn, 1)]
theorem kX8_aim : dchk cX8_aim pX8_aim = true := by decide +kernel
def pX8_fire : List (Nat × Instr × Nat) := [(0, .aload_n 0, 1), (1, .invokevirtual 97, 3), (4, .aload_n 0, 1), (5, .iload_n 1, 1), (6, .invokevirtual 115, 3), (9, .ifCond .eq 11, 3), (12, .iload_n 2, 1), (13, .iconst 2, 1), (14, .invokestatic 77, 3), (17, .ifCond .ne 6, 3), (20, .bipush (-2), 2), (22, .ireturn, 1), (23, .aload_n 0, 1), (24, .iload_n 1, 1), (25, .invokevirtual 198, 3), (28, .iload_n 2, 1), (29, .ifCond .ne 10, 3), (32, .aload_n 0, 1), (33, .getfield 185, 3), (36, .goto 7, 3), (39, .aload_n 0, 1), (40, .getfield 182, 3), (43, .ireturn, 1)]
theorem kX8_fire : dchk cX8_fire pX8_fire = true := by decide +kernel
def pX8_mend : List (Nat × Instr × Nat) := [(0, .iload_n 1, 1), (1, .iconst 2, 1), (2, .invokestatic 77, 3), (5, .ifCond .ne 6, 3), (8, .bipush (-2), 2), (10, .ireturn, 1), (11, .aload_n 0, 1), (12, .invokevirtual 97, 3), (15, .aload_n 0, 1), (16, .invokevirtual 201, 3), (19, .iload_n 1, 1), (20, .ifCond .ne 10, 3), (23, .aload_n 0, 1), (24, .getfield 185, 3), (27, .goto 7, 3), (30, .aload_n 0, 1), (31, .getfield 182, 3), (34, .ireturn, 1)]
theorem kX8_mend : dchk cX8_mend pX8_mend = true := by decide +kernel
def pX8_spare : List (Nat × Instr × Nat) := [(0, .iload_n 1, 1), (1, .iconst (-1), 1), (2, .if_icmp .eq 14, 3), (5, .iload_n 1, 1), (6, .iconst 2, 1), (7, .invokestatic 77, 3), (10, .ifCond .ne 6, 3), (13, .bipush (-2), 2), (15, .ireturn, 1), (16, .aload_n 0, 1), (17, .invokevirtual 97, 3), (20, .aload_n 0, 1), (21, .invokevirtual 204, 3), (24, .iload_n 1, 1), (25, .invokestatic 207, 3), (28, .ireturn, 1)]
theorem kX8_spare : dchk cX8_spare pX8_spare = true := by decide +kernel
def pX8_seen : List (Nat × Instr × Nat) := [(0, .iload_n 1, 1), (1, .bipush 24, 2), (3, .invokestatic 77, 3), (6, .ifCond .eq 20, 3), (9, .iload_n 2, 1), (10, .bipush 12, 2), (12, .invokestatic 77, 3), (15, .ifCond .eq 11, 3), (18, .iload_n 3, 1), (19, .iconst 2, 1), (20, .invokestatic 77, 3), (23, .ifCond .ne 6, 3), (26, .bipush (-2), 2), (28, .ireturn, 1), (29, .aload_n 0, 1), (30, .getfield 56, 3), (33, .invokevirtual 210, 3), (36, .ifCond .eq 6, 3), (39, .bipush (-4), 2), (41, .ireturn, 1), (42, .aload_n 0, 1), (43, .getfield 56, 3), (46, .iload_n 1, 1), (47, .iload_n 2, 1), (48, .iload_n 3, 1), (49, .invokevirtual 211, 3), (52, .aload_n 0, 1), (53, .getfield 56, 3), (56, .getfield 212, 3), (59, .ireturn, 1)]
theorem kX8_seen : dchk cX8_seen pX8_seen = true := by decide +kernel
def pX8_forget : List (Nat × Instr × Nat) := [(0, .aload_n 0, 1), (1, .getfield 56, 3), (4, .getfield 212, 3), (7, .istore_n 1, 1), (8, .aload_n 0, 1), (9, .getfield 56, 3), (12, .iconst 0, 1), (13, .putfield 212, 3), (16, .iload_n 1, 1), (17, .ireturn, 1)]
theorem kX8_forget : dchk cX8_forget pX8_forget = true := by decide +kernel
def pX8_might : List (Nat × Instr × Nat) := [(0, .iload_n 1, 1), (1, .iconst 2, 1), (2, .invokestatic 77, 3), (5, .ifCond .ne 6, 3), (8, .bipush (-2), 2), (10, .ireturn, 1), (11, .aload_n 0, 1), (12, .invokevirtual 97, 3), (15, .iload_n 1, 1), (16, .ifCond .ne 10, 3), (19, .aload_n 0, 1), (20, .invokevirtual 213, 3), (23, .goto 7, 3), (26, .aload_n 0, 1), (27, .invokevirtual 216, 3), (30, .ireturn, 1)]
theorem kX8_might : dchk cX8_might pX8_might = true := by decide +kernel
def pX8_kind : List (Nat × Instr × Nat) := [(0, .aload_n 0, 1), (1, .invokevirtual 97, 3), (4, .aload_n 0, 1), (5, .iload_n 1, 1), (6, .invokevirtual 107, 3), (9, .ifCond .ne 6, 3), (12, .bipush (-2), 2), (14, .ireturn, 1), (15, .aload_n 0, 1), (16, .iload_n 1, 1), (17, .invokevirtual 219, 3), (20, .ireturn, 1)]
theorem kX8_kind : dchk cX8_kind pX8_kind = true := by decide +kernel
def pX8_ask : List (Nat × Instr × Nat) := [(0, .aload_n 0, 1), (1, .invokevirtual 97, 3), (4, .aload_n 0, 1), (5, .invokevirtual 222, 3), (8, .ireturn, 1)]
theorem kX8_ask : dchk cX8_ask pX8_ask = true := by decide +kernel
def pX8_chance : List (Nat × Instr × Nat) := [(0, .aload_n 0, 1), (1, .invokevirtual 97, 3), (4, .iload_n 1, 1), (5, .bipush 17, 2), (7, .invokestatic 77, 3), (10, .ifCond .eq 19, 3), (13, .aload_n 0, 1), (14, .iload_n 2, 1), (15, .invokevirtual 115, 3), (18, .ifCond .eq 11, 3), (21, .iload_n 3, 1), (22, .iconst 2, 1), (23, .invokestatic 77, 3), (26, .ifCond .ne 7, 3), (29, .ldc2_w 225, 3), (32, .lreturn, 1), (33, .aload_n 0, 1), (34, .invokevirtual 227, 3), (37, .aload_n 0, 1), (38, .iload_n 1, 1), (39, .iload_n 2, 1), (40, .iload_n 3, 1), (41, .invokevirtual 230, 3), (44, .lreturn, 1)]
theorem kX8_chance : dchk cX8_chance pX8_chance = true := by decide +kernel
def pX8_fairs : List (Nat × Instr × Nat) := [(0, .iload_n 2, 1), (1, .bipush 13, 2), (3, .invokestatic 77, 3), (6, .ifCond .eq 11, 3), (9, .iload_n 3, 1), (10, .iconst 2, 1), (11, .invokestatic 77, 3), (14, .ifCond .ne 6, 3), (17, .bipush (-2), 2), (19, .ireturn, 1), (20, .aload_n 0, 1), (21, .invokevirtual 97, 3), (24, .aload_n 0, 1), (25, .iload_n 1, 1), (26, .iload_n 2, 1), (27, .invokevirtual 234, 3), (30, .aload_n 0, 1), (31, .getfield 50, 3), (34, .iload_n 3, 1), (35, .invokevirtual 176, 3), (38, .ireturn, 1)]
theorem kX8_fairs : dchk cX8_fairs pX8_fairs = true := by decide +kernel
def pX8_sheet : List (Nat × Instr × Nat) := [(0, .iload_n 1, 1), (1, .iconst 4, 1), (2, .invokestatic 77, 3), (5, .ifCond .eq 17, 3), (8, .iload_n 2, 1), (9, .iconst 3, 1), (10, .invokestatic 77, 3), (13, .ifCond .eq 9, 3), (16, .iload_n 3, 1), (17, .bipush 60, 2), (19, .if_icmp .le 6, 3), (22, .bipush (-2), 2), (24, .ireturn, 1), (25, .iload_n 3, 1), (26, .ifCond .ge 9, 3), (29, .aload_n 0, 1), (30, .iconst 5, 1), (31, .invokevirtual 238, 3), (34, .ireturn, 1), (35, .aload_n 0, 1), (36, .getfield 62, 3), (39, .iload_n 1, 1), (40, .aaload, 1), (41, .iload_n 2, 1), (42, .iload_n 3, 1), (43, .invokevirtual 241, 3), (46, .iload_n 3, 1), (47, .ireturn, 1)]
theorem kX8_sheet : dchk cX8_sheet pX8_sheet = true := by decide +kernel
def pX8_lose : List (Nat × Instr × Nat) := [(0, .aload_n 0, 1), (1, .iload_n 1, 1), (2, .invokevirtual 147, 3), (5, .istore_n 2, 1), (6, .iload_n 2, 1), (7, .ifCond .eq 5, 3), (10, .iload_n 2, 1), (11, .ireturn, 1), (12, .aload_n 0, 1), (13, .getfield 62, 3), (16, .iload_n 1, 1), (17, .aaload, 1), (18, .iconst 1, 1), (19, .putfield 244, 3), (22, .aload_n 0, 1), (23, .getfield 62, 3), (26, .iload_n 1, 1), (27, .aaload, 1), (28, .getfield 151, 3), (31, .ireturn, 1)]
theorem kX8_lose : dchk cX8_lose pX8_lose = true := by decide +kernel
def pX8_lay : List (Nat × Instr × Nat) := [(0, .aload_n 0, 1), (1, .iload_n 1, 1), (2, .iload_n 2, 1), (3, .iload_n 3, 1), (4, .invokevirtual 247, 3), (7, .istore 5, 2), (9, .iload 5, 2), (11, .ifCond .eq 6, 3), (14, .iload 5, 2), (16, .ireturn, 1), (17, .aload_n 0, 1), (18, .getfield 62, 3), (21, .iload_n 1, 1), (22, .aaload, 1), (23, .iload_n 3, 1), (24, .iload 4, 2), (26, .invokevirtual 250, 3), (29, .iconst 1, 1), (30, .ireturn, 1)]
theorem kX8_lay : dchk cX8_lay pX8_lay = true := by decide +kernel
def pX8_get : List (Nat × Instr × Nat) := [(0, .aload_n 0, 1), (1, .iload_n 1, 1), (2, .iload_n 2, 1), (3, .iload_n 3, 1), (4, .invokevirtual 247, 3), (7, .ifCond .eq 8, 3), (10, .ldc 103, 2), (12, .goto 14, 3), (15, .aload_n 0, 1), (16, .getfield 62, 3), (19, .iload_n 1, 1), (20, .aaload, 1), (21, .getfield 152, 3), (24, .iload_n 3, 1), (25, .iaload, 1), (26, .ireturn, 1)]
theorem kX8_get : dchk cX8_get pX8_get = true := by decide +kernel
def pX8_copy : List (Nat × Instr × Nat) := [(0, .iload_n 1, 1), (1, .iconst 4, 1), (2, .invokestatic 77, 3), (5, .ifCond .eq 11, 3), (8, .iload_n 3, 1), (9, .iconst 4, 1), (10, .invokestatic 77, 3), (13, .ifCond .ne 6, 3), (16, .bipush (-2), 2), (18, .ireturn, 1), (19, .aload_n 0, 1), (20, .getfield 62, 3), (23, .iload_n 1, 1), (24, .aaload, 1), (25, .astore 6, 2), (27, .aload_n 0, 1), (28, .getfield 62, 3), (31, .iload_n 3, 1), (32, .aaload, 1), (33, .astore 7, 2), (35, .aload 6, 2), (37, .getfield 244, 3), (40, .ifCond .ne 11, 3), (43, .aload 7, 2), (45, .getfield 244, 3), (48, .ifCond .eq 9, 3), (51, .aload_n 0, 1), (52, .iconst 1, 1), (53, .invokevirtual 238, 3), (56, .ireturn, 1), (57, .aload 6, 2), (59, .getfield 253, 3), (62, .aload 7, 2), (64, .getfield 253, 3), (67, .if_icmp .eq 9, 3), (70, .aload_n 0, 1), (71, .iconst 4, 1), (72, .invokevirtual 238, 3), (75, .ireturn, 1), (76, .aload 6, 2), (78, .iload_n 2, 1), (79, .iload 5, 2), (81, .invokevirtual 256, 3), (84, .ifCond .eq 15, 3), (87, .aload 7, 2), (89, .iload 4, 2), (91, .iload 5, 2), (93, .invokevirtual 256, 3), (96, .ifCond .ne 9, 3), (99, .aload_n 0, 1), (100, .iconst 2, 1), (101, .invokevirtual 238, 3), (104, .ireturn, 1), (105, .aload 6, 2), (107, .getfield 152, 3), (110, .iload_n 2, 1), (111, .aload 7, 2), (113, .getfield 152, 3), (116, .iload 4, 2), (118, .iload 5, 2), (120, .invokestatic 259, 3), (123, .iconst 1, 1), (124, .ireturn, 1)]
theorem kX8_copy : dchk cX8_copy pX8_copy = true := by decide +kernel
def pX8_write : List (Nat × Instr × Nat) := [(0, .aload_n 0, 1), (1, .invokevirtual 97, 3), (4, .aload_n 0, 1), (5, .iload_n 1, 1), (6, .invokevirtual 107, 3), (9, .ifCond .ne 6, 3), (12, .bipush (-2), 2), (14, .ireturn, 1), (15, .aload_n 0, 1), (16, .iload_n 2, 1), (17, .invokevirtual 147, 3), (20, .istore_n 3, 1), (21, .iload_n 3, 1), (22, .ifCond .eq 5, 3), (25, .iload_n 3, 1), (26, .ireturn, 1), (27, .bipush 24, 2), (29, .aload_n 0, 1), (30, .getfield 62, 3), (33, .iload_n 2, 1), (34, .aaload, 1), (35, .getfield 151, 3), (38, .invokestatic 265, 3), (41, .istore 4, 2), (43, .iconst 0, 1), (44, .istore 5, 2), (46, .iload 5, 2), (48, .iload 4, 2), (50, .if_icmp .ge 30, 3), (53, .aload_n 0, 1), (54, .getfield 62, 3), (57, .iload_n 2, 1), (58, .aaload, 1), (59, .iload 5, 2), (61, .aload_n 0, 1), (62, .getfield 46, 3), (65, .iload 5, 2), (67, .iload_n 1, 1), (68, .invokevirtual 270, 3), (71, .invokevirtual 250, 3), (74, .iinc 5 1, 3), (77, .goto (-31), 3), (80, .iload 4, 2), (82, .ireturn, 1)]
theorem kX8_write : dchk cX8_write pX8_write = true := by decide +kernel
def pX8_count : List (Nat × Instr × Nat) := [(0, .aload_n 0, 1), (1, .invokevirtual 97, 3), (4, .aload_n 0, 1), (5, .iload_n 1, 1), (6, .invokevirtual 273, 3), (9, .ireturn, 1)]
theorem kX8_count : dchk cX8_count pX8_count = true := by decide +kernel
def pX8_digest : List (Nat × Instr × Nat) := [(0, .aload_n 0, 1), (1, .invokevirtual 97, 3), (4, .aload_n 0, 1), (5, .invokevirtual 227, 3), (8, .aload_n 0, 1), (9, .ldc2_w 276, 3), (12, .invokevirtual 278, 3), (15, .lstore_n 1, 1), (16, .iconst 0, 1), (17, .istore_n 3, 1), (18, .iload_n 3, 1), (19, .aload_n 0, 1), (20, .getfield 18, 3), (23, .getfield 282, 3), (26, .if_icmp .ge 16, 3), (29, .aload_n 0, 1), (30, .lload_n 1, 1), (31, .iload_n 3, 1), (32, .invokevirtual 285, 3), (35, .lstore_n 1, 1), (36, .iinc 3 1, 3), (39, .goto (-21), 3), (42, .iconst 0, 1), (43, .istore_n 3, 1), (44, .iload_n 3, 1), (45, .aload_n 0, 1), (46, .getfield 46, 3), (49, .getfield 118, 3), (52, .getfield 289, 3), (55, .if_icmp .ge 16, 3), (58, .aload_n 0, 1), (59, .lload_n 1, 1), (60, .iload_n 3, 1), (61, .invokevirtual 290, 3), (64, .lstore_n 1, 1), (65, .iinc 3 1, 3), (68, .goto (-24), 3), (71, .aload_n 0, 1), (72, .aload_n 0, 1), (73, .lload_n 1, 1), (74, .invokevirtual 293, 3), (77, .invokevirtual 296, 3), (80, .lreturn, 1)]
theorem kX8_digest : dchk cX8_digest pX8_digest = true := by decide +kernel
def pX8_mix : List (Nat × Instr × Nat) := [(0, .ldc2_w 299, 3), (3, .lload_n 0, 1), (4, .lmul, 1), (5, .lload_n 2, 1), (6, .ladd, 1), (7, .lreturn, 1)]
theorem kX8_mix : dchk cX8_mix pX8_mix = true := by decide +kernel
def pX8_mixFound : List (Nat × Instr × Nat) := [(0, .lload_n 1, 1), (1, .aload_n 0, 1), (2, .getfield 185, 3), (5, .i2l, 1), (6, .invokestatic 301, 3), (9, .aload_n 0, 1), (10, .getfield 182, 3), (13, .i2l, 1), (14, .invokestatic 301, 3), (17, .lreturn, 1)]
theorem kX8_mixFound : dchk cX8_mixFound pX8_mixFound = true := by decide +kernel
def pX8_digestTold : List (Nat × Instr × Nat) := [(0, .lload_n 1, 1), (1, .lstore_n 3, 1), (2, .iconst 0, 1), (3, .istore 5, 2), (5, .iload 5, 2), (7, .bipush 7, 2), (9, .if_icmp .gt 21, 3), (12, .lload_n 3, 1), (13, .aload_n 0, 1), (14, .iload 5, 2), (16, .invokevirtual 273, 3), (19, .i2l, 1), (20, .invokestatic 301, 3), (23, .lstore_n 3, 1), (24, .iinc 5 1, 3), (27, .goto (-22), 3), (30, .iconst 0, 1), (31, .istore 5, 2), (33, .iload 5, 2), (35, .iconst 3, 1), (36, .if_icmp .ge 25, 3), (39, .lload_n 3, 1), (40, .aload_n 0, 1), (41, .getfield 11, 3), (44, .iload 5, 2), (46, .aaload, 1), (47, .getfield 100, 3), (50, .i2l, 1), (51, .invokestatic 301, 3), (54, .lstore_n 3, 1), (55, .iinc 5 1, 3), (58, .goto (-25), 3), (61, .iconst 0, 1), (62, .istore 5, 2), (64, .iload 5, 2), (66, .iconst 3, 1), (67, .if_icmp .ge 60, 3), (70, .lload_n 3, 1), (71, .aload_n 0, 1), (72, .getfield 18, 3), (75, .getfield 104, 3), (78, .iload 5, 2), (80, .iaload, 1), (81, .i2l, 1), (82, .invokestatic 301, 3), (85, .lstore_n 3, 1), (86, .iconst 0, 1), (87, .istore 6, 2), (89, .iload 6, 2), (91, .bipush 12, 2), (93, .if_icmp .ge 28, 3), (96, .lload_n 3, 1), (97, .aload_n 0, 1), (98, .getfield 34, 3), (101, .bipush 10, 2), (103, .iload 5, 2), (105, .iload 6, 2), (107, .invokevirtual 162, 3), (110, .i2l, 1), (111, .invokestatic 301, 3), (114, .lstore_n 3, 1), (115, .iinc 6 1, 3), (118, .goto (-29), 3), (121, .iinc 5 1, 3), (124, .goto (-60), 3), (127, .iconst 0, 1), (128, .istore 5, 2), (130, .iload 5, 2), (132, .bipush 24, 2), (134, .if_icmp .ge 28, 3), (137, .lload_n 3, 1), (138, .aload_n 0, 1), (139, .getfield 46, 3), (142, .getfield 165, 3), (145, .iload 5, 2), (147, .iaload, 1), (148, .invokestatic 168, 3), (151, .i2l, 1), (152, .invokestatic 301, 3), (155, .lstore_n 3, 1), (156, .iinc 5 1, 3), (159, .goto (-29), 3), (162, .lload_n 3, 1), (163, .lreturn, 1)]
theorem kX8_digestTold : dchk cX8_digestTold pX8_digestTold = true := by decide +kernel
def pX8_digestDuck : List (Nat × Instr × Nat) := [(0, .lload_n 1, 1), (1, .lstore 4, 2), (3, .iconst 0, 1), (4, .istore 6, 2), (6, .iload 6, 2), (8, .iconst 3, 1), (9, .if_icmp .gt 27, 3), (12, .lload 4, 2), (14, .aload_n 0, 1), (15, .getfield 18, 3), (18, .iload_n 3, 1), (19, .iload 6, 2), (21, .invokevirtual 111, 3), (24, .i2l, 1), (25, .invokestatic 301, 3), (28, .lstore 4, 2), (30, .iinc 6 1, 3), (33, .goto (-27), 3), (36, .getstatic 305, 3), (39, .astore 6, 2), (41, .aload 6, 2), (43, .arraylength, 1), (44, .istore 7, 2), (46, .iconst 0, 1), (47, .istore 8, 2), (49, .iload 8, 2), (51, .iload 7, 2), (53, .if_icmp .ge 51, 3), (56, .aload 6, 2), (58, .iload 8, 2), (60, .iaload, 1), (61, .istore 9, 2), (63, .iconst 0, 1), (64, .istore 10, 2), (66, .iload 10, 2), (68, .iconst 2, 1), (69, .if_icmp .gt 29, 3), (72, .lload 4, 2), (74, .aload_n 0, 1), (75, .getfield 46, 3), (78, .iload 9, 2), (80, .iload_n 3, 1), (81, .iload 10, 2), (83, .invokevirtual 159, 3), (86, .i2l, 1), (87, .invokestatic 301, 3), (90, .lstore 4, 2), (92, .iinc 10 1, 3), (95, .goto (-29), 3), (98, .iinc 8 1, 3), (101, .goto (-52), 3), (104, .lload 4, 2), (106, .aload_n 0, 1), (107, .iload_n 3, 1), (108, .invokevirtual 219, 3), (111, .i2l, 1), (112, .invokestatic 301, 3), (115, .lreturn, 1)]
theorem kX8_digestDuck : dchk cX8_digestDuck pX8_digestDuck = true := by decide +kernel
def pX8_digestShot : List (Nat × Instr × Nat) := [(0, .lload_n 1, 1), (1, .lstore 4, 2), (3, .iconst 0, 1), (4, .istore 6, 2), (6, .iload 6, 2), (8, .iconst 2, 1), (9, .if_icmp .gt 30, 3), (12, .lload 4, 2), (14, .aload_n 0, 1), (15, .getfield 46, 3), (18, .getfield 118, 3), (21, .iload_n 3, 1), (22, .iload 6, 2), (24, .invokevirtual 122, 3), (27, .i2l, 1), (28, .invokestatic 301, 3), (31, .lstore 4, 2), (33, .iinc 6 1, 3), (36, .goto (-30), 3), (39, .iconst 0, 1), (40, .istore 6, 2), (42, .iload 6, 2), (44, .iconst 2, 1), (45, .if_icmp .gt 27, 3), (48, .lload 4, 2), (50, .aload_n 0, 1), (51, .getfield 46, 3), (54, .iload_n 3, 1), (55, .iload 6, 2), (57, .invokevirtual 173, 3), (60, .i2l, 1), (61, .invokestatic 301, 3), (64, .lstore 4, 2), (66, .iinc 6 1, 3), (69, .goto (-27), 3), (72, .aload_n 0, 1), (73, .iload_n 3, 1), (74, .invokevirtual 195, 3), (77, .aload_n 0, 1), (78, .lload 4, 2), (80, .invokevirtual 308, 3), (83, .lstore 4, 2), (85, .aload_n 0, 1), (86, .iload_n 3, 1), (87, .invokevirtual 198, 3), (90, .aload_n 0, 1), (91, .lload 4, 2), (93, .invokevirtual 308, 3), (96, .lstore 4, 2), (98, .lload 4, 2), (100, .aload_n 0, 1), (101, .iconst 5, 1), (102, .iload_n 3, 1), (103, .iconst 0, 1), (104, .invokevirtual 230, 3), (107, .invokestatic 301, 3), (110, .lstore 4, 2), (112, .lload 4, 2), (114, .aload_n 0, 1), (115, .iconst 5, 1), (116, .iload_n 3, 1), (117, .iconst 1, 1), (118, .invokevirtual 230, 3), (121, .invokestatic 301, 3), (124, .lreturn, 1)]
theorem kX8_digestShot : dchk cX8_digestShot pX8_digestShot = true := by decide +kernel
def pX8_digestSums : List (Nat × Instr × Nat) := [(0, .lload_n 1, 1), (1, .lstore_n 3, 1), (2, .iconst 0, 1), (3, .istore 5, 2), (5, .iload 5, 2), (7, .iconst 2, 1), (8, .if_icmp .gt 24, 3), (11, .lload_n 3, 1), (12, .aload_n 0, 1), (13, .getfield 46, 3), (16, .iload 5, 2), (18, .invokevirtual 176, 3), (21, .i2l, 1), (22, .invokestatic 301, 3), (25, .lstore_n 3, 1), (26, .iinc 5 1, 3), (29, .goto (-24), 3), (32, .aload_n 0, 1), (33, .invokevirtual 179, 3), (36, .lload_n 3, 1), (37, .aload_n 0, 1), (38, .getfield 182, 3), (41, .i2l, 1), (42, .invokestatic 301, 3), (45, .aload_n 0, 1), (46, .getfield 185, 3), (49, .i2l, 1), (50, .invokestatic 301, 3), (53, .lstore_n 3, 1), (54, .lload_n 3, 1), (55, .aload_n 0, 1), (56, .invokevirtual 188, 3), (59, .i2l, 1), (60, .invokestatic 301, 3), (63, .aload_n 0, 1), (64, .invokevirtual 192, 3), (67, .i2l, 1), (68, .invokestatic 301, 3), (71, .lreturn, 1)]
theorem kX8_digestSums : dchk cX8_digestSums pX8_digestSums = true := by decide +kernel
def pX8_digestPlans : List (Nat × Instr × Nat) := [(0, .aload_n 0, 1), (1, .invokevirtual 201, 3), (4, .aload_n 0, 1), (5, .lload_n 1, 1), (6, .invokevirtual 308, 3), (9, .lstore_n 3, 1), (10, .aload_n 0, 1), (11, .invokevirtual 204, 3), (14, .istore 5, 2), (16, .lload_n 3, 1), (17, .iload 5, 2), (19, .iconst (-1), 1), (20, .invokestatic 207, 3), (23, .i2l, 1), (24, .invokestatic 301, 3), (27, .iload 5, 2), (29, .iconst 0, 1), (30, .invokestatic 207, 3), (33, .i2l, 1), (34, .invokestatic 301, 3), (37, .lstore_n 3, 1), (38, .lload_n 3, 1), (39, .aload_n 0, 1), (40, .invokevirtual 213, 3), (43, .i2l, 1), (44, .invokestatic 301, 3), (47, .aload_n 0, 1), (48, .invokevirtual 216, 3), (51, .i2l, 1), (52, .invokestatic 301, 3), (55, .lstore_n 3, 1), (56, .lload_n 3, 1), (57, .aload_n 0, 1), (58, .invokevirtual 222, 3), (61, .i2l, 1), (62, .invokestatic 301, 3), (65, .lstore_n 3, 1), (66, .aload_n 0, 1), (67, .bipush 7, 2), (69, .bipush 9, 2), (71, .invokevirtual 234, 3), (74, .lload_n 3, 1), (75, .aload_n 0, 1), (76, .getfield 50, 3), (79, .iconst 0, 1), (80, .invokevirtual 176, 3), (83, .i2l, 1), (84, .invokestatic 301, 3), (87, .aload_n 0, 1), (88, .getfield 50, 3), (91, .iconst 1, 1), (92, .invokevirtual 176, 3), (95, .i2l, 1), (96, .invokestatic 301, 3), (99, .lreturn, 1)]
theorem kX8_digestPlans : dchk cX8_digestPlans pX8_digestPlans = true := by decide +kernel
def pX8_within : List (Nat × Instr × Nat) := [(0, .iload_n 0, 1), (1, .ifCond .lt 12, 3), (4, .iload_n 0, 1), (5, .iload_n 1, 1), (6, .if_icmp .ge 7, 3), (9, .iconst 1, 1), (10, .goto 4, 3), (13, .iconst 0, 1), (14, .ireturn, 1)]
theorem kX8_within : dchk cX8_within pX8_within = true := by decide +kernel
def pX8_isEvent : List (Nat × Instr × Nat) := [(0, .iload_n 0, 1), (1, .iconst 3, 1), (2, .invokestatic 77, 3), (5, .ifCond .eq 25, 3), (8, .iload_n 1, 1), (9, .bipush 24, 2), (11, .invokestatic 77, 3), (14, .ifCond .eq 16, 3), (17, .iload_n 2, 1), (18, .bipush 12, 2), (20, .invokestatic 77, 3), (23, .ifCond .eq 7, 3), (26, .iconst 1, 1), (27, .goto 4, 3), (30, .iconst 0, 1), (31, .ireturn, 1)]
theorem kX8_isEvent : dchk cX8_isEvent pX8_isEvent = true := by decide +kernel
def pX8_isDuck : List (Nat × Instr × Nat) := [(0, .iload_n 1, 1), (1, .aload_n 0, 1), (2, .getfield 18, 3), (5, .getfield 282, 3), (8, .invokestatic 77, 3), (11, .ireturn, 1)]
theorem kX8_isDuck : dchk cX8_isDuck pX8_isDuck = true := by decide +kernel
def pX8_isShot : List (Nat × Instr × Nat) := [(0, .iload_n 1, 1), (1, .aload_n 0, 1), (2, .getfield 46, 3), (5, .getfield 118, 3), (8, .getfield 289, 3), (11, .invokestatic 77, 3), (14, .ireturn, 1)]
theorem kX8_isShot : dchk cX8_isShot pX8_isShot = true := by decide +kernel
def pX8_finding : List (Nat × Instr × Nat) := [(0, .aload_n 0, 1), (1, .iload_n 1, 1), (2, .putfield 311, 3), (5, .bipush (-10), 2), (7, .iload_n 1, 1), (8, .isub, 1), (9, .ireturn, 1)]
theorem kX8_finding : dchk cX8_finding pX8_finding = true := by decide +kernel
def pX8_refuseSheet : List (Nat × Instr × Nat) := [(0, .iload_n 1, 1), (1, .iconst 4, 1), (2, .invokestatic 77, 3), (5, .ifCond .ne 6, 3), (8, .bipush (-2), 2), (10, .ireturn, 1), (11, .aload_n 0, 1), (12, .getfield 62, 3), (15, .iload_n 1, 1), (16, .aaload, 1), (17, .getfield 244, 3), (20, .ifCond .eq 11, 3), (23, .aload_n 0, 1), (24, .iconst 1, 1), (25, .invokevirtual 238, 3), (28, .goto 4, 3), (31, .iconst 0, 1), (32, .ireturn, 1)]
theorem kX8_refuseSheet : dchk cX8_refuseSheet pX8_refuseSheet = true := by decide +kernel
def pX8_refuseItem : List (Nat × Instr × Nat) := [(0, .iload_n 2, 1), (1, .iconst 3, 1), (2, .invokestatic 77, 3), (5, .ifCond .ne 6, 3), (8, .bipush (-2), 2), (10, .ireturn, 1), (11, .aload_n 0, 1), (12, .iload_n 1, 1), (13, .invokevirtual 147, 3), (16, .istore 4, 2), (18, .iload 4, 2), (20, .ifCond .eq 6, 3), (23, .iload 4, 2), (25, .ireturn, 1), (26, .aload_n 0, 1), (27, .getfield 62, 3), (30, .iload_n 1, 1), (31, .aaload, 1), (32, .getfield 253, 3), (35, .iload_n 2, 1), (36, .if_icmp .eq 9, 3), (39, .aload_n 0, 1), (40, .iconst 3, 1), (41, .invokevirtual 238, 3), (44, .ireturn, 1), (45, .iload_n 3, 1), (46, .aload_n 0, 1), (47, .getfield 62, 3), (50, .iload_n 1, 1), (51, .aaload, 1), (52, .getfield 151, 3), (55, .invokestatic 77, 3), (58, .ifCond .eq 7, 3), (61, .iconst 0, 1), (62, .goto 8, 3), (65, .aload_n 0, 1), (66, .iconst 2, 1), (67, .invokevirtual 238, 3), (70, .ireturn, 1)]
theorem kX8_refuseItem : dchk cX8_refuseItem pX8_refuseItem = true := by decide +kernel
def pX8_settle : List (Nat × Instr × Nat) := [(0, .aload_n 0, 1), (1, .getfield 89, 3), (4, .ifCond .eq 4, 3), (7, .return_, 1), (8, .iconst 0, 1), (9, .istore_n 1, 1), (10, .iload_n 1, 1), (11, .iconst 3, 1), (12, .if_icmp .ge 18, 3), (15, .aload_n 0, 1), (16, .getfield 11, 3), (19, .iload_n 1, 1), (20, .aaload, 1), (21, .invokevirtual 314, 3), (24, .iinc 1 1, 3), (27, .goto (-17), 3), (30, .aload_n 0, 1), (31, .getfield 18, 3), (34, .aload_n 0, 1), (35, .getfield 11, 3), (38, .iconst 0, 1), (39, .aaload, 1), (40, .aload_n 0, 1), (41, .getfield 11, 3), (44, .iconst 1, 1), (45, .aaload, 1), (46, .invokevirtual 317, 3), (49, .aload_n 0, 1), (50, .getfield 34, 3), (53, .aload_n 0, 1), (54, .getfield 25, 3), (57, .invokevirtual 321, 3), (60, .invokevirtual 324, 3), (63, .aload_n 0, 1), (64, .getfield 46, 3), (67, .getfield 118, 3), (70, .aload_n 0, 1), (71, .getfield 11, 3), (74, .iconst 2, 1), (75, .aaload, 1), (76, .invokevirtual 327, 3), (79, .aload_n 0, 1), (80, .getfield 18, 3), (83, .getfield 331, 3), (86, .iconst 0, 1), (87, .aload_n 0, 1), (88, .getfield 46, 3), (91, .getfield 334, 3), (94, .iconst 0, 1), (95, .bipush 12, 2), (97, .invokestatic 259, 3), (100, .aload_n 0, 1), (101, .getfield 46, 3), (104, .invokevirtual 335, 3), (107, .aload_n 0, 1), (108, .iconst 1, 1), (109, .putfield 89, 3), (112, .aload_n 0, 1), (113, .iconst 0, 1), (114, .putfield 338, 3), (117, .return_, 1)]
theorem kX8_settle : dchk cX8_settle pX8_settle = true := by decide +kernel
def pX8_offer : List (Nat × Instr × Nat) := [(0, .iload_n 2, 1), (1, .aload_n 0, 1), (2, .getfield 182, 3), (5, .if_icmp .le 13, 3), (8, .aload_n 0, 1), (9, .iload_n 2, 1), (10, .putfield 182, 3), (13, .aload_n 0, 1), (14, .iload_n 1, 1), (15, .putfield 185, 3), (18, .return_, 1)]
theorem kX8_offer : dchk cX8_offer pX8_offer = true := by decide +kernel
def pX8_tellCount : List (Nat × Instr × Nat) := [(0, .iload_n 1, 1), (1, .tableswitch 154 0 8 #[51, 59, 70, 100, 108, 116, 127, 141, 149], 51), (52, .aload_n 0, 1), (53, .getfield 18, 3), (56, .getfield 282, 3), (59, .ireturn, 1), (60, .aload_n 0, 1), (61, .getfield 46, 3), (64, .getfield 118, 3), (67, .getfield 289, 3), (70, .ireturn, 1), (71, .aload_n 0, 1), (72, .getfield 11, 3), (75, .iconst 0, 1), (76, .aaload, 1), (77, .getfield 93, 3), (80, .aload_n 0, 1), (81, .getfield 11, 3), (84, .iconst 1, 1), (85, .aaload, 1), (86, .getfield 93, 3), (89, .iadd, 1), (90, .aload_n 0, 1), (91, .getfield 11, 3), (94, .iconst 2, 1), (95, .aaload, 1), (96, .getfield 93, 3), (99, .iadd, 1), (100, .ireturn, 1), (101, .aload_n 0, 1), (102, .getfield 25, 3), (105, .getfield 141, 3), (108, .ireturn, 1), (109, .aload_n 0, 1), (110, .getfield 46, 3), (113, .getfield 341, 3), (116, .ireturn, 1), (117, .aload_n 0, 1), (118, .getfield 46, 3), (121, .getfield 344, 3), (124, .invokestatic 168, 3), (127, .ireturn, 1), (128, .aload_n 0, 1), (129, .getfield 46, 3), (132, .getfield 165, 3), (135, .bipush 23, 2), (137, .iaload, 1), (138, .invokestatic 168, 3), (141, .ireturn, 1), (142, .aload_n 0, 1), (143, .getfield 56, 3), (146, .getfield 212, 3), (149, .ireturn, 1), (150, .aload_n 0, 1), (151, .getfield 311, 3), (154, .ireturn, 1), (155, .bipush (-2), 2), (157, .ireturn, 1)]
theorem kX8_tellCount : dchk cX8_tellCount pX8_tellCount = true := by decide +kernel
def pX8_easiestDuck : List (Nat × Instr × Nat) := [(0, .aload_n 0, 1), (1, .iconst (-1), 1), (2, .putfield 185, 3), (5, .aload_n 0, 1), (6, .iconst 0, 1), (7, .putfield 182, 3), (10, .iconst 0, 1), (11, .istore_n 1, 1), (12, .iload_n 1, 1), (13, .aload_n 0, 1), (14, .getfield 18, 3), (17, .getfield 282, 3), (20, .if_icmp .ge 24, 3), (23, .aload_n 0, 1), (24, .iload_n 1, 1), (25, .aload_n 0, 1), (26, .getfield 46, 3), (29, .bipush 23, 2), (31, .iload_n 1, 1), (32, .invokevirtual 347, 3), (35, .invokevirtual 350, 3), (38, .iinc 1 1, 3), (41, .goto (-29), 3), (44, .aload_n 0, 1), (45, .getfield 185, 3), (48, .ireturn, 1)]
theorem kX8_easiestDuck : dchk cX8_easiestDuck pX8_easiestDuck = true := by decide +kernel
def pX8_safeDucks : List (Nat × Instr × Nat) := [(0, .iconst 0, 1), (1, .istore_n 1, 1), (2, .iconst 0, 1), (3, .istore_n 2, 1), (4, .iload_n 2, 1), (5, .aload_n 0, 1), (6, .getfield 18, 3), (9, .getfield 282, 3), (12, .if_icmp .ge 28, 3), (15, .aload_n 0, 1), (16, .getfield 46, 3), (19, .bipush 23, 2), (21, .iload_n 2, 1), (22, .invokevirtual 347, 3), (25, .ifCond .ne 9, 3), (28, .iload_n 1, 1), (29, .iconst 1, 1), (30, .iload_n 2, 1), (31, .ishl, 1), (32, .ior, 1), (33, .istore_n 1, 1), (34, .iinc 2 1, 3), (37, .goto (-33), 3), (40, .iload_n 1, 1), (41, .ireturn, 1)]
theorem kX8_safeDucks : dchk cX8_safeDucks pX8_safeDucks = true := by decide +kernel
def pX8_seekRun : List (Nat × Instr × Nat) := [(0, .aload_n 0, 1), (1, .iconst (-1), 1), (2, .putfield 185, 3), (5, .aload_n 0, 1), (6, .iconst 0, 1), (7, .putfield 182, 3), (10, .iconst 0, 1), (11, .istore_n 1, 1), (12, .iconst 0, 1), (13, .istore_n 2, 1), (14, .iload_n 2, 1), (15, .aload_n 0, 1), (16, .getfield 46, 3), (19, .getfield 118, 3), (22, .getfield 289, 3), (25, .if_icmp .ge 41, 3), (28, .aload_n 0, 1), (29, .getfield 46, 3), (32, .getfield 344, 3), (35, .iload_n 2, 1), (36, .invokestatic 353, 3), (39, .ifCond .eq 9, 3), (42, .iload_n 1, 1), (43, .iconst 1, 1), (44, .iadd, 1), (45, .goto 4, 3), (48, .iconst 0, 1), (49, .istore_n 1, 1), (50, .aload_n 0, 1), (51, .iload_n 2, 1), (52, .iload_n 1, 1), (53, .isub, 1), (54, .iconst 1, 1), (55, .iadd, 1), (56, .iload_n 1, 1), (57, .invokevirtual 350, 3), (60, .iinc 2 1, 3), (63, .goto (-49), 3), (66, .return_, 1)]
theorem kX8_seekRun : dchk cX8_seekRun pX8_seekRun = true := by decide +kernel
def pX8_seekAim : List (Nat × Instr × Nat) := [(0, .aload_n 0, 1), (1, .getfield 50, 3), (4, .aload_n 0, 1), (5, .getfield 46, 3), (8, .invokevirtual 356, 3), (11, .aload_n 0, 1), (12, .iconst (-1), 1), (13, .putfield 182, 3), (16, .iconst 0, 1), (17, .istore_n 2, 1), (18, .iload_n 2, 1), (19, .bipush 6, 2), (21, .if_icmp .ge 41, 3), (24, .aload_n 0, 1), (25, .getfield 50, 3), (28, .getfield 118, 3), (31, .getfield 360, 3), (34, .iload_n 1, 1), (35, .iload_n 2, 1), (36, .iastore, 1), (37, .aload_n 0, 1), (38, .getfield 50, 3), (41, .invokevirtual 335, 3), (44, .aload_n 0, 1), (45, .iload_n 2, 1), (46, .aload_n 0, 1), (47, .getfield 50, 3), (50, .getfield 341, 3), (53, .invokevirtual 350, 3), (56, .iinc 2 1, 3), (59, .goto (-41), 3), (62, .return_, 1)]
theorem kX8_seekAim : dchk cX8_seekAim pX8_seekAim = true := by decide +kernel
def pX8_seekFire : List (Nat × Instr × Nat) := [(0, .aload_n 0, 1), (1, .getfield 50, 3), (4, .aload_n 0, 1), (5, .getfield 46, 3), (8, .invokevirtual 356, 3), (11, .aload_n 0, 1), (12, .iconst (-1), 1), (13, .putfield 182, 3), (16, .iconst 0, 1), (17, .istore_n 2, 1), (18, .iload_n 2, 1), (19, .bipush 24, 2), (21, .if_icmp .ge 41, 3), (24, .aload_n 0, 1), (25, .getfield 50, 3), (28, .getfield 118, 3), (31, .getfield 363, 3), (34, .iload_n 1, 1), (35, .iload_n 2, 1), (36, .iastore, 1), (37, .aload_n 0, 1), (38, .getfield 50, 3), (41, .invokevirtual 335, 3), (44, .aload_n 0, 1), (45, .iload_n 2, 1), (46, .aload_n 0, 1), (47, .getfield 50, 3), (50, .getfield 341, 3), (53, .invokevirtual 350, 3), (56, .iinc 2 1, 3), (59, .goto (-41), 3), (62, .return_, 1)]
theorem kX8_seekFire : dchk cX8_seekFire pX8_seekFire = true := by decide +kernel
def pX8_seekMend : List (Nat × Instr × Nat) := [(0, .aload_n 0, 1), (1, .getfield 50, 3), (4, .aload_n 0, 1), (5, .getfield 46, 3), (8, .invokevirtual 356, 3), (11, .aload_n 0, 1), (12, .iconst (-1), 1), (13, .putfield 182, 3), (16, .iconst 0, 1), (17, .istore_n 1, 1), (18, .iload_n 1, 1), (19, .iconst 5, 1), (20, .if_icmp .ge 36, 3), (23, .aload_n 0, 1), (24, .getfield 50, 3), (27, .iload_n 1, 1), (28, .putfield 127, 3), (31, .aload_n 0, 1), (32, .getfield 50, 3), (35, .invokevirtual 335, 3), (38, .aload_n 0, 1), (39, .iload_n 1, 1), (40, .aload_n 0, 1), (41, .getfield 50, 3), (44, .getfield 341, 3), (47, .invokevirtual 350, 3), (50, .iinc 1 1, 3), (53, .goto (-35), 3), (56, .return_, 1)]
theorem kX8_seekMend : dchk cX8_seekMend pX8_seekMend = true := by decide +kernel
def pX8_tryEvents : List (Nat × Instr × Nat) := [(0, .aload_n 0, 1), (1, .getfield 50, 3), (4, .aload_n 0, 1), (5, .getfield 46, 3), (8, .invokevirtual 356, 3), (11, .aload_n 0, 1), (12, .getfield 38, 3), (15, .iload_n 1, 1), (16, .invokevirtual 324, 3), (19, .aload_n 0, 1), (20, .getfield 50, 3), (23, .aload_n 0, 1), (24, .getfield 38, 3), (27, .putfield 366, 3), (30, .aload_n 0, 1), (31, .getfield 50, 3), (34, .invokevirtual 335, 3), (37, .return_, 1)]
theorem kX8_tryEvents : dchk cX8_tryEvents pX8_tryEvents = true := by decide +kernel
def pX8_allHitWithout : List (Nat × Instr × Nat) := [(0, .aload_n 0, 1), (1, .aload_n 0, 1), (2, .getfield 25, 3), (5, .invokevirtual 321, 3), (8, .iload_n 1, 1), (9, .iconst (-1), 1), (10, .ixor, 1), (11, .iand, 1), (12, .invokevirtual 369, 3), (15, .aload_n 0, 1), (16, .getfield 50, 3), (19, .getfield 344, 3), (22, .iconst 1, 1), (23, .aload_n 0, 1), (24, .getfield 50, 3), (27, .getfield 118, 3), (30, .getfield 289, 3), (33, .ishl, 1), (34, .iconst 1, 1), (35, .isub, 1), (36, .if_icmp .ne 7, 3), (39, .iconst 1, 1), (40, .goto 4, 3), (43, .iconst 0, 1), (44, .ireturn, 1)]
theorem kX8_allHitWithout : dchk cX8_allHitWithout pX8_allHitWithout = true := by decide +kernel
def pX8_eventsToSpare : List (Nat × Instr × Nat) := [(0, .aload_n 0, 1), (1, .iconst 0, 1), (2, .invokevirtual 372, 3), (5, .ifCond .eq 5, 3), (8, .iconst 0, 1), (9, .ireturn, 1), (10, .iconst 0, 1), (11, .istore_n 1, 1), (12, .iload_n 1, 1), (13, .aload_n 0, 1), (14, .getfield 25, 3), (17, .getfield 141, 3), (20, .if_icmp .ge 23, 3), (23, .aload_n 0, 1), (24, .iconst 1, 1), (25, .iload_n 1, 1), (26, .ishl, 1), (27, .invokevirtual 372, 3), (30, .ifCond .eq 7, 3), (33, .iconst 1, 1), (34, .iload_n 1, 1), (35, .ishl, 1), (36, .ireturn, 1), (37, .iinc 1 1, 3), (40, .goto (-28), 3), (43, .iconst 0, 1), (44, .istore_n 1, 1), (45, .iload_n 1, 1), (46, .aload_n 0, 1), (47, .getfield 25, 3), (50, .getfield 141, 3), (53, .if_icmp .ge 52, 3), (56, .iload_n 1, 1), (57, .iconst 1, 1), (58, .iadd, 1), (59, .istore_n 2, 1), (60, .iload_n 2, 1), (61, .aload_n 0, 1), (62, .getfield 25, 3), (65, .getfield 141, 3), (68, .if_icmp .ge 31, 3), (71, .aload_n 0, 1), (72, .iconst 1, 1), (73, .iload_n 1, 1), (74, .ishl, 1), (75, .iconst 1, 1), (76, .iload_n 2, 1), (77, .ishl, 1), (78, .ior, 1), (79, .invokevirtual 372, 3), (82, .ifCond .eq 11, 3), (85, .iconst 1, 1), (86, .iload_n 1, 1), (87, .ishl, 1), (88, .iconst 1, 1), (89, .iload_n 2, 1), (90, .ishl, 1), (91, .ior, 1), (92, .ireturn, 1), (93, .iinc 2 1, 3), (96, .goto (-36), 3), (99, .iinc 1 1, 3), (102, .goto (-57), 3), (105, .iconst (-1), 1), (106, .ireturn, 1)]
theorem kX8_eventsToSpare : dchk cX8_eventsToSpare pX8_eventsToSpare = true := by decide +kernel
def pX8_sparedOf : List (Nat × Instr × Nat) := [(0, .iload_n 0, 1), (1, .iconst (-1), 1), (2, .if_icmp .ne 5, 3), (5, .iconst (-1), 1), (6, .ireturn, 1), (7, .iload_n 0, 1), (8, .invokestatic 168, 3), (11, .istore_n 2, 1), (12, .iload_n 1, 1), (13, .iconst (-1), 1), (14, .if_icmp .ne 5, 3), (17, .iload_n 2, 1), (18, .ireturn, 1), (19, .iload_n 1, 1), (20, .iload_n 2, 1), (21, .if_icmp .lt 5, 3), (24, .iconst (-1), 1), (25, .ireturn, 1), (26, .iload_n 1, 1), (27, .ifCond .ne 7, 3), (30, .iload_n 0, 1), (31, .goto 8, 3), (34, .iload_n 0, 1), (35, .iload_n 0, 1), (36, .iconst 1, 1), (37, .isub, 1), (38, .iand, 1), (39, .invokestatic 375, 3), (42, .ireturn, 1)]
theorem kX8_sparedOf : dchk cX8_sparedOf pX8_sparedOf = true := by decide +kernel
def pX8_bitIfSeen : List (Nat × Instr × Nat) := [(0, .aload_n 0, 1), (1, .getfield 56, 3), (4, .aload_n 0, 1), (5, .getfield 50, 3), (8, .getfield 165, 3), (11, .aload_n 0, 1), (12, .getfield 18, 3), (15, .getfield 282, 3), (18, .invokevirtual 378, 3), (21, .ifCond .eq 9, 3), (24, .iconst 1, 1), (25, .iload_n 1, 1), (26, .ishl, 1), (27, .goto 4, 3), (30, .iconst 0, 1), (31, .ireturn, 1)]
theorem kX8_bitIfSeen : dchk cX8_bitIfSeen pX8_bitIfSeen = true := by decide +kernel
def pX8_eventsThatNeverWere : List (Nat × Instr × Nat) := [(0, .iconst 0, 1), (1, .istore_n 1, 1), (2, .iconst 0, 1), (3, .istore_n 2, 1), (4, .iload_n 2, 1), (5, .aload_n 0, 1), (6, .getfield 25, 3), (9, .getfield 141, 3), (12, .if_icmp .ge 34, 3), (15, .aload_n 0, 1), (16, .aload_n 0, 1), (17, .getfield 25, 3), (20, .invokevirtual 321, 3), (23, .iconst 1, 1), (24, .iload_n 2, 1), (25, .ishl, 1), (26, .iconst (-1), 1), (27, .ixor, 1), (28, .iand, 1), (29, .invokevirtual 369, 3), (32, .iload_n 1, 1), (33, .aload_n 0, 1), (34, .iload_n 2, 1), (35, .invokevirtual 382, 3), (38, .ior, 1), (39, .istore_n 1, 1), (40, .iinc 2 1, 3), (43, .goto (-39), 3), (46, .iload_n 1, 1), (47, .ireturn, 1)]
theorem kX8_eventsThatNeverWere : dchk cX8_eventsThatNeverWere pX8_eventsThatNeverWere = true := by decide +kernel
def pX8_pullsThatMightBe : List (Nat × Instr × Nat) := [(0, .aload_n 0, 1), (1, .getfield 50, 3), (4, .aload_n 0, 1), (5, .getfield 46, 3), (8, .invokevirtual 356, 3), (11, .iconst 0, 1), (12, .istore_n 1, 1), (13, .iconst 0, 1), (14, .istore_n 2, 1), (15, .iconst 0, 1), (16, .istore_n 3, 1), (17, .iload_n 3, 1), (18, .iconst 5, 1), (19, .if_icmp .ge 65, 3), (22, .aload_n 0, 1), (23, .getfield 50, 3), (26, .iload_n 3, 1), (27, .putfield 127, 3), (30, .aload_n 0, 1), (31, .getfield 50, 3), (34, .invokevirtual 335, 3), (37, .aload_n 0, 1), (38, .iload_n 3, 1), (39, .invokevirtual 382, 3), (42, .istore 4, 2), (44, .iload 4, 2), (46, .ifCond .eq 27, 3), (49, .aload_n 0, 1), (50, .getfield 50, 3), (53, .getfield 165, 3), (56, .iconst 0, 1), (57, .aload_n 0, 1), (58, .getfield 70, 3), (61, .iload_n 2, 1), (62, .bipush 24, 2), (64, .imul, 1), (65, .bipush 24, 2), (67, .invokestatic 259, 3), (70, .iinc 2 1, 3), (73, .iload_n 1, 1), (74, .iload 4, 2), (76, .ior, 1), (77, .istore_n 1, 1), (78, .iinc 3 1, 3), (81, .goto (-64), 3), (84, .iload_n 1, 1), (85, .ireturn, 1)]
theorem kX8_pullsThatMightBe : dchk cX8_pullsThatMightBe pX8_pullsThatMightBe = true := by decide +kernel
def pX8_kindsThatMightBe : List (Nat × Instr × Nat) := [(0, .aload_n 0, 1), (1, .getfield 50, 3), (4, .aload_n 0, 1), (5, .getfield 46, 3), (8, .invokevirtual 356, 3), (11, .iconst 0, 1), (12, .istore_n 2, 1), (13, .iconst 0, 1), (14, .istore_n 3, 1), (15, .iload_n 3, 1), (16, .iconst 3, 1), (17, .if_icmp .ge 34, 3), (20, .aload_n 0, 1), (21, .getfield 50, 3), (24, .getfield 334, 3), (27, .iload_n 1, 1), (28, .iload_n 3, 1), (29, .iastore, 1), (30, .aload_n 0, 1), (31, .getfield 50, 3), (34, .invokevirtual 335, 3), (37, .iload_n 2, 1), (38, .aload_n 0, 1), (39, .iload_n 3, 1), (40, .invokevirtual 382, 3), (43, .ior, 1), (44, .istore_n 2, 1), (45, .iinc 3 1, 3), (48, .goto (-33), 3), (51, .iload_n 2, 1), (52, .ireturn, 1)]
theorem kX8_kindsThatMightBe : dchk cX8_kindsThatMightBe pX8_kindsThatMightBe = true := by decide +kernel
def pX8_tickToAsk : List (Nat × Instr × Nat) := [(0, .aload_n 0, 1), (1, .invokevirtual 216, 3), (4, .invokestatic 168, 3), (7, .istore_n 1, 1), (8, .iconst 0, 1), (9, .istore_n 2, 1), (10, .bipush 6, 2), (12, .istore_n 3, 1), (13, .iconst 0, 1), (14, .istore 4, 2), (16, .iload 4, 2), (18, .bipush 24, 2), (20, .if_icmp .ge 30, 3), (23, .aload_n 0, 1), (24, .iload 4, 2), (26, .iload_n 1, 1), (27, .invokevirtual 385, 3), (30, .istore 5, 2), (32, .iload 5, 2), (34, .iload_n 3, 1), (35, .if_icmp .ge 9, 3), (38, .iload 5, 2), (40, .istore_n 3, 1), (41, .iload 4, 2), (43, .istore_n 2, 1), (44, .iinc 4 1, 3), (47, .goto (-31), 3), (50, .iload_n 2, 1), (51, .ireturn, 1)]
theorem kX8_tickToAsk : dchk cX8_tickToAsk pX8_tickToAsk = true := by decide +kernel
def pX8_greatestLikeGroup : List (Nat × Instr × Nat) := [(0, .iconst 0, 1), (1, .istore_n 3, 1), (2, .iconst 0, 1), (3, .istore 4, 2), (5, .iload 4, 2), (7, .iload_n 2, 1), (8, .if_icmp .ge 64, 3), (11, .iconst 0, 1), (12, .istore 5, 2), (14, .iconst 0, 1), (15, .istore 6, 2), (17, .iload 6, 2), (19, .iload_n 2, 1), (20, .if_icmp .ge 39, 3), (23, .aload_n 0, 1), (24, .getfield 70, 3), (27, .iload 4, 2), (29, .bipush 24, 2), (31, .imul, 1), (32, .iload_n 1, 1), (33, .iadd, 1), (34, .iaload, 1), (35, .aload_n 0, 1), (36, .getfield 70, 3), (39, .iload 6, 2), (41, .bipush 24, 2), (43, .imul, 1), (44, .iload_n 1, 1), (45, .iadd, 1), (46, .iaload, 1), (47, .if_icmp .ne 6, 3), (50, .iinc 5 1, 3), (53, .iinc 6 1, 3), (56, .goto (-39), 3), (59, .iload_n 3, 1), (60, .iload 5, 2), (62, .invokestatic 388, 3), (65, .istore_n 3, 1), (66, .iinc 4 1, 3), (69, .goto (-64), 3), (72, .iload_n 3, 1), (73, .ireturn, 1)]
theorem kX8_greatestLikeGroup : dchk cX8_greatestLikeGroup pX8_greatestLikeGroup = true := by decide +kernel
end
section
def pX8_learnChances : List (Nat × Instr × Nat) := [(0, .aload_n 0, 1), (1, .getfield 338, 3), (4, .ifCond .eq 4, 3), (7, .return_, 1), (8, .aload_n 0, 1), (9, .getfield 66, 3), (12, .iconst 0, 1), (13, .invokestatic 391, 3), (16, .iconst 0, 1), (17, .istore_n 1, 1), (18, .iload_n 1, 1), (19, .aload_n 0, 1), (20, .getfield 25, 3), (23, .invokevirtual 321, 3), (26, .if_icmp .gt 70, 3), (29, .aload_n 0, 1), (30, .iload_n 1, 1), (31, .invokevirtual 369, 3), (34, .iload_n 1, 1), (35, .invokestatic 168, 3), (38, .istore_n 2, 1), (39, .iconst 0, 1), (40, .istore_n 3, 1), (41, .iload_n 3, 1), (42, .aload_n 0, 1), (43, .getfield 46, 3), (46, .getfield 118, 3), (49, .getfield 289, 3), (52, .if_icmp .ge 38, 3), (55, .aload_n 0, 1), (56, .getfield 50, 3), (59, .getfield 344, 3), (62, .iload_n 3, 1), (63, .invokestatic 353, 3), (66, .ifCond .eq 18, 3), (69, .aload_n 0, 1), (70, .getfield 66, 3), (73, .iload_n 3, 1), (74, .bipush 9, 2), (76, .imul, 1), (77, .iload_n 2, 1), (78, .iadd, 1), (79, .dup2, 1), (80, .iaload, 1), (81, .iconst 1, 1), (82, .iadd, 1), (83, .iastore, 1), (84, .iinc 3 1, 3), (87, .goto (-46), 3), (90, .iinc 1 1, 3), (93, .goto (-75), 3), (96, .aload_n 0, 1), (97, .iconst 1, 1), (98, .putfield 338, 3), (101, .return_, 1)]
theorem kX8_learnChances : dchk cX8_learnChances pX8_learnChances = true := by decide +kernel
def pX8_chanceLearned : List (Nat × Instr × Nat) := [(0, .aload_n 0, 1), (1, .iload_n 1, 1), (2, .iload_n 2, 1), (3, .invokevirtual 397, 3), (6, .lstore 4, 2), (8, .bipush 16, 2), (10, .aload_n 0, 1), (11, .getfield 25, 3), (14, .getfield 141, 3), (17, .invokestatic 401, 3), (20, .lstore 6, 2), (22, .lload 4, 2), (24, .lload 6, 2), (26, .invokestatic 404, 3), (29, .lstore 8, 2), (31, .iload_n 3, 1), (32, .ifCond .ne 8, 3), (35, .lload 4, 2), (37, .goto 5, 3), (40, .lload 6, 2), (42, .lload 8, 2), (44, .ldiv, 1), (45, .lreturn, 1)]
theorem kX8_chanceLearned : dchk cX8_chanceLearned pX8_chanceLearned = true := by decide +kernel
def pX8_weightOfHits : List (Nat × Instr × Nat) := [(0, .lconst 0, 1), (1, .lstore_n 3, 1), (2, .iconst 0, 1), (3, .istore 5, 2), (5, .iload 5, 2), (7, .aload_n 0, 1), (8, .getfield 25, 3), (11, .getfield 141, 3), (14, .if_icmp .gt 54, 3), (17, .iload_n 1, 1), (18, .iload 5, 2), (20, .invokestatic 401, 3), (23, .bipush 16, 2), (25, .iload_n 1, 1), (26, .isub, 1), (27, .aload_n 0, 1), (28, .getfield 25, 3), (31, .getfield 141, 3), (34, .iload 5, 2), (36, .isub, 1), (37, .invokestatic 401, 3), (40, .lmul, 1), (41, .lstore 6, 2), (43, .lload_n 3, 1), (44, .aload_n 0, 1), (45, .getfield 66, 3), (48, .iload_n 2, 1), (49, .bipush 9, 2), (51, .imul, 1), (52, .iload 5, 2), (54, .iadd, 1), (55, .iaload, 1), (56, .i2l, 1), (57, .lload 6, 2), (59, .lmul, 1), (60, .ladd, 1), (61, .lstore_n 3, 1), (62, .iinc 5 1, 3), (65, .goto (-60), 3), (68, .lload_n 3, 1), (69, .lreturn, 1)]
theorem kX8_weightOfHits : dchk cX8_weightOfHits pX8_weightOfHits = true := by decide +kernel
def pX8_power : List (Nat × Instr × Nat) := [(0, .lconst 1, 1), (1, .lstore_n 2, 1), (2, .iconst 0, 1), (3, .istore 4, 2), (5, .iload 4, 2), (7, .iload_n 1, 1), (8, .if_icmp .ge 14, 3), (11, .lload_n 2, 1), (12, .iload_n 0, 1), (13, .i2l, 1), (14, .lmul, 1), (15, .lstore_n 2, 1), (16, .iinc 4 1, 3), (19, .goto (-14), 3), (22, .lload_n 2, 1), (23, .lreturn, 1)]
theorem kX8_power : dchk cX8_power pX8_power = true := by decide +kernel
def pX8_commonDivisor : List (Nat × Instr × Nat) := [(0, .lload_n 2, 1), (1, .lstore 4, 2), (3, .iconst 0, 1), (4, .istore 6, 2), (6, .iload 6, 2), (8, .bipush 64, 2), (10, .if_icmp .ge 33, 3), (13, .lload 4, 2), (15, .lconst 1, 1), (16, .lcmp, 1), (17, .ifCond .le 26, 3), (20, .lload_n 0, 1), (21, .lload 4, 2), (23, .lconst 1, 1), (24, .lsub, 1), (25, .land, 1), (26, .lconst 0, 1), (27, .lcmp, 1), (28, .ifCond .eq 15, 3), (31, .lload 4, 2), (33, .iconst 1, 1), (34, .lshr, 1), (35, .lstore 4, 2), (37, .iinc 6 1, 3), (40, .goto (-34), 3), (43, .lload 4, 2), (45, .lconst 1, 1), (46, .invokestatic 407, 3), (49, .lreturn, 1)]
theorem kX8_commonDivisor : dchk cX8_commonDivisor pX8_commonDivisor = true := by decide +kernel
def pX8_tryFair : List (Nat × Instr × Nat) := [(0, .aload_n 0, 1), (1, .getfield 50, 3), (4, .aload_n 0, 1), (5, .getfield 46, 3), (8, .invokevirtual 356, 3), (11, .aload_n 0, 1), (12, .getfield 50, 3), (15, .getfield 118, 3), (18, .iload_n 1, 1), (19, .iload_n 2, 1), (20, .invokevirtual 409, 3), (23, .aload_n 0, 1), (24, .getfield 50, 3), (27, .invokevirtual 335, 3), (30, .return_, 1)]
theorem kX8_tryFair : dchk cX8_tryFair pX8_tryFair = true := by decide +kernel
def pX8_isSet : List (Nat × Instr × Nat) := [(0, .iload_n 0, 1), (1, .iload_n 1, 1), (2, .ishr, 1), (3, .iconst 1, 1), (4, .iand, 1), (5, .iconst 1, 1), (6, .if_icmp .ne 7, 3), (9, .iconst 1, 1), (10, .goto 4, 3), (13, .iconst 0, 1), (14, .ireturn, 1)]
theorem kX8_isSet : dchk cX8_isSet pX8_isSet = true := by decide +kernel
def pX9_init : List (Nat × Instr × Nat) := [(0, .aload_n 0, 1), (1, .invokespecial 1, 3), (4, .aload_n 0, 1), (5, .iconst 4, 1), (6, .newarray .int, 2), (8, .putfield 7, 3), (11, .aload_n 0, 1), (12, .iconst 4, 1), (13, .newarray .int, 2), (15, .putfield 13, 3), (18, .aload_n 0, 1), (19, .sipush 240, 3), (22, .newarray .int, 2), (24, .putfield 16, 3), (27, .aload_n 0, 1), (28, .bipush 60, 2), (30, .newarray .int, 2), (32, .putfield 19, 3), (35, .aload_n 0, 1), (36, .sipush 180, 3), (39, .newarray .int, 2), (41, .putfield 22, 3), (44, .aload_n 0, 1), (45, .iconst 3, 1), (46, .newarray .int, 2), (48, .putfield 25, 3), (51, .aload_n 0, 1), (52, .iconst 3, 1), (53, .newarray .int, 2), (55, .putfield 28, 3), (58, .aload_n 0, 1), (59, .bipush 48, 2), (61, .newarray .int, 2), (63, .putfield 31, 3), (66, .aload_n 0, 1), (67, .bipush 36, 2), (69, .newarray .int, 2), (71, .putfield 34, 3), (74, .aload_n 0, 1), (75, .iconst 2, 1), (76, .newarray .int, 2), (78, .putfield 37, 3), (81, .aload_n 0, 1), (82, .bipush 24, 2), (84, .newarray .int, 2), (86, .putfield 40, 3), (89, .aload_n 0, 1), (90, .bipush 12, 2), (92, .newarray .int, 2), (94, .putfield 43, 3), (97, .aload_n 0, 1), (98, .bipush 12, 2), (100, .newarray .int, 2), (102, .putfield 46, 3), (105, .aload_n 0, 1), (106, .bipush 12, 2), (108, .newarray .int, 2), (110, .putfield 49, 3), (113, .aload_n 0, 1), (114, .bipush 12, 2), (116, .newarray .int, 2), (118, .putfield 52, 3), (121, .aload_n 0, 1), (122, .bipush 12, 2), (124, .newarray .int, 2), (126, .putfield 55, 3), (129, .aload_n 0, 1), (130, .sipush 288, 3), (133, .newarray .int, 2), (135, .putfield 58, 3), (138, .aload_n 0, 1), (139, .sipush 288, 3), (142, .newarray .int, 2), (144, .putfield 61, 3), (147, .aload_n 0, 1), (148, .sipush 288, 3), (151, .newarray .int, 2), (153, .putfield 64, 3), (156, .aload_n 0, 1), (157, .bipush 24, 2), (159, .newarray .int, 2), (161, .putfield 67, 3), (164, .aload_n 0, 1), (165, .bipush 120, 2), (167, .newarray .int, 2), (169, .putfield 70, 3), (172, .iconst 0, 1), (173, .istore_n 1, 1), (174, .iload_n 1, 1), (175, .iconst 4, 1), (176, .if_icmp .ge 16, 3), (179, .aload_n 0, 1), (180, .getfield 7, 3), (183, .iload_n 1, 1), (184, .iconst (-1), 1), (185, .iastore, 1), (186, .iinc 1 1, 3), (189, .goto (-15), 3), (192, .aload_n 0, 1), (193, .getfield 37, 3), (196, .iconst 0, 1), (197, .iconst 2, 1), (198, .iastore, 1), (199, .aload_n 0, 1), (200, .getfield 37, 3), (203, .iconst 1, 1), (204, .iconst 1, 1), (205, .iastore, 1), (206, .return_, 1)]
theorem kX9_init : dchk cX9_init pX9_init = true := by decide +kernel
def pX9_in : List (Nat × Instr × Nat) := [(0, .lload_n 0, 1), (1, .lload_n 2, 1), (2, .lcmp, 1), (3, .ifCond .lt 14, 3), (6, .lload_n 0, 1), (7, .lload 4, 2), (9, .lcmp, 1), (10, .ifCond .gt 7, 3), (13, .iconst 1, 1), (14, .goto 4, 3), (17, .iconst 0, 1), (18, .ireturn, 1)]
theorem kX9_in : dchk cX9_in pX9_in = true := by decide +kernel
def pX9_no : List (Nat × Instr × Nat) := [(0, .ldc2_w 73, 3), (3, .iload_n 0, 1), (4, .i2l, 1), (5, .lsub, 1), (6, .lreturn, 1)]
theorem kX9_no : dchk cX9_no pX9_no = true := by decide +kernel
def pX9_isTwo : List (Nat × Instr × Nat) := [(0, .iload_n 0, 1), (1, .i2l, 1), (2, .lconst 0, 1), (3, .lconst 1, 1), (4, .invokestatic 75, 3), (7, .ireturn, 1)]
theorem kX9_isTwo : dchk cX9_isTwo pX9_isTwo = true := by decide +kernel
def pX9_isIn : List (Nat × Instr × Nat) := [(0, .iload_n 0, 1), (1, .iload_n 1, 1), (2, .ishr, 1), (3, .iconst 1, 1), (4, .iand, 1), (5, .iconst 1, 1), (6, .if_icmp .ne 7, 3), (9, .iconst 1, 1), (10, .goto 4, 3), (13, .iconst 0, 1), (14, .ireturn, 1)]
theorem kX9_isIn : dchk cX9_isIn pX9_isIn = true := by decide +kernel
def pX9_lesser : List (Nat × Instr × Nat) := [(0, .iload_n 0, 1), (1, .iload_n 1, 1), (2, .if_icmp .ge 7, 3), (5, .iload_n 0, 1), (6, .goto 4, 3), (9, .iload_n 1, 1), (10, .ireturn, 1)]
theorem kX9_lesser : dchk cX9_lesser pX9_lesser = true := by decide +kernel
def pX9_greater : List (Nat × Instr × Nat) := [(0, .iload_n 0, 1), (1, .iload_n 1, 1), (2, .if_icmp .le 7, 3), (5, .iload_n 0, 1), (6, .goto 4, 3), (9, .iload_n 1, 1), (10, .ireturn, 1)]
theorem kX9_greater : dchk cX9_greater pX9_greater = true := by decide +kernel
def pX9_part : List (Nat × Instr × Nat) := [(0, .lload_n 0, 1), (1, .lstore 5, 2), (3, .lload_n 2, 1), (4, .lstore 7, 2), (6, .lload 7, 2), (8, .lconst 0, 1), (9, .lcmp, 1), (10, .ifCond .eq 21, 3), (13, .lload 5, 2), (15, .lload 7, 2), (17, .lrem, 1), (18, .lstore 9, 2), (20, .lload 7, 2), (22, .lstore 5, 2), (24, .lload 9, 2), (26, .lstore 7, 2), (28, .goto (-22), 3), (31, .iload 4, 2), (33, .ifCond .ne 7, 3), (36, .lload_n 0, 1), (37, .goto 4, 3), (40, .lload_n 2, 1), (41, .lload 5, 2), (43, .ldiv, 1), (44, .lreturn, 1)]
theorem kX9_part : dchk cX9_part pX9_part = true := by decide +kernel
def pX9_finds : List (Nat × Instr × Nat) := [(0, .aload_n 0, 1), (1, .iload_n 1, 1), (2, .putfield 79, 3), (5, .bipush (-10), 2), (7, .iload_n 1, 1), (8, .isub, 1), (9, .ireturn, 1)]
theorem kX9_finds : dchk cX9_finds pX9_finds = true := by decide +kernel
def pX9_isSheet : List (Nat × Instr × Nat) := [(0, .iload_n 0, 1), (1, .i2l, 1), (2, .lconst 0, 1), (3, .ldc2_w 83, 3), (6, .invokestatic 75, 3), (9, .ireturn, 1)]
theorem kX9_isSheet : dchk cX9_isSheet pX9_isSheet = true := by decide +kernel
def pX9_sheet : List (Nat × Instr × Nat) := [(0, .iload_n 1, 1), (1, .invokestatic 85, 3), (4, .ifCond .eq 21, 3), (7, .iload_n 2, 1), (8, .i2l, 1), (9, .lconst 0, 1), (10, .ldc2_w 89, 3), (13, .invokestatic 75, 3), (16, .ifCond .eq 9, 3), (19, .iload_n 3, 1), (20, .bipush 60, 2), (22, .if_icmp .le 6, 3), (25, .bipush (-2), 2), (27, .ireturn, 1), (28, .iload_n 3, 1), (29, .ifCond .ge 9, 3), (32, .aload_n 0, 1), (33, .iconst 5, 1), (34, .invokevirtual 91, 3), (37, .ireturn, 1), (38, .aload_n 0, 1), (39, .getfield 7, 3), (42, .iload_n 1, 1), (43, .iload_n 2, 1), (44, .iastore, 1), (45, .aload_n 0, 1), (46, .getfield 13, 3), (49, .iload_n 1, 1), (50, .iload_n 3, 1), (51, .iastore, 1), (52, .iconst 0, 1), (53, .istore 4, 2), (55, .iload 4, 2), (57, .iload_n 3, 1), (58, .if_icmp .ge 22, 3), (61, .aload_n 0, 1), (62, .getfield 16, 3), (65, .bipush 60, 2), (67, .iload_n 1, 1), (68, .imul, 1), (69, .iload 4, 2), (71, .iadd, 1), (72, .iconst 0, 1), (73, .iastore, 1), (74, .iinc 4 1, 3), (77, .goto (-22), 3), (80, .iload_n 3, 1), (81, .ireturn, 1)]
theorem kX9_sheet : dchk cX9_sheet pX9_sheet = true := by decide +kernel
def pX9_lose : List (Nat × Instr × Nat) := [(0, .iload_n 1, 1), (1, .invokestatic 85, 3), (4, .ifCond .ne 6, 3), (7, .bipush (-2), 2), (9, .ireturn, 1), (10, .aload_n 0, 1), (11, .getfield 7, 3), (14, .iload_n 1, 1), (15, .iaload, 1), (16, .ifCond .ge 9, 3), (19, .aload_n 0, 1), (20, .iconst 1, 1), (21, .invokevirtual 91, 3), (24, .ireturn, 1), (25, .aload_n 0, 1), (26, .getfield 7, 3), (29, .iload_n 1, 1), (30, .iconst (-1), 1), (31, .iastore, 1), (32, .aload_n 0, 1), (33, .getfield 13, 3), (36, .iload_n 1, 1), (37, .iaload, 1), (38, .ireturn, 1)]
theorem kX9_lose : dchk cX9_lose pX9_lose = true := by decide +kernel
def pX9_lacks : List (Nat × Instr × Nat) := [(0, .aload_n 0, 1), (1, .getfield 7, 3), (4, .iload_n 1, 1), (5, .iaload, 1), (6, .ifCond .ge 9, 3), (9, .aload_n 0, 1), (10, .iconst 1, 1), (11, .invokevirtual 91, 3), (14, .ireturn, 1), (15, .aload_n 0, 1), (16, .getfield 7, 3), (19, .iload_n 1, 1), (20, .iaload, 1), (21, .iload_n 2, 1), (22, .if_icmp .eq 9, 3), (25, .aload_n 0, 1), (26, .iconst 3, 1), (27, .invokevirtual 91, 3), (30, .ireturn, 1), (31, .iload_n 3, 1), (32, .i2l, 1), (33, .lconst 0, 1), (34, .aload_n 0, 1), (35, .getfield 13, 3), (38, .iload_n 1, 1), (39, .iaload, 1), (40, .iconst 1, 1), (41, .isub, 1), (42, .i2l, 1), (43, .invokestatic 75, 3), (46, .ifCond .eq 7, 3), (49, .iconst 0, 1), (50, .goto 8, 3), (53, .aload_n 0, 1), (54, .iconst 2, 1), (55, .invokevirtual 91, 3), (58, .ireturn, 1)]
theorem kX9_lacks : dchk cX9_lacks pX9_lacks = true := by decide +kernel
def pX9_cut : List (Nat × Instr × Nat) := [(0, .iload_n 0, 1), (1, .ifCond .ne 8, 3), (4, .iload_n 1, 1), (5, .i2b, 1), (6, .goto 14, 3), (9, .iload_n 0, 1), (10, .iconst 1, 1), (11, .if_icmp .ne 8, 3), (14, .iload_n 1, 1), (15, .i2s, 1), (16, .goto 4, 3), (19, .iload_n 1, 1), (20, .ireturn, 1)]
theorem kX9_cut : dchk cX9_cut pX9_cut = true := by decide +kernel
def pX9_lay : List (Nat × Instr × Nat) := [(0, .iload_n 1, 1), (1, .invokestatic 85, 3), (4, .ifCond .eq 15, 3), (7, .iload_n 2, 1), (8, .i2l, 1), (9, .lconst 0, 1), (10, .ldc2_w 89, 3), (13, .invokestatic 75, 3), (16, .ifCond .ne 6, 3), (19, .bipush (-2), 2), (21, .ireturn, 1), (22, .aload_n 0, 1), (23, .iload_n 1, 1), (24, .iload_n 2, 1), (25, .iload_n 3, 1), (26, .invokevirtual 95, 3), (29, .istore 5, 2), (31, .iload 5, 2), (33, .ifCond .eq 6, 3), (36, .iload 5, 2), (38, .ireturn, 1), (39, .aload_n 0, 1), (40, .getfield 16, 3), (43, .bipush 60, 2), (45, .iload_n 1, 1), (46, .imul, 1), (47, .iload_n 3, 1), (48, .iadd, 1), (49, .iload_n 2, 1), (50, .iload 4, 2), (52, .invokestatic 99, 3), (55, .iastore, 1), (56, .iconst 1, 1), (57, .ireturn, 1)]
theorem kX9_lay : dchk cX9_lay pX9_lay = true := by decide +kernel
def pX9_get : List (Nat × Instr × Nat) := [(0, .iload_n 1, 1), (1, .invokestatic 85, 3), (4, .ifCond .eq 25, 3), (7, .iload_n 2, 1), (8, .i2l, 1), (9, .lconst 0, 1), (10, .ldc2_w 89, 3), (13, .invokestatic 75, 3), (16, .ifCond .eq 13, 3), (19, .aload_n 0, 1), (20, .iload_n 1, 1), (21, .iload_n 2, 1), (22, .iload_n 3, 1), (23, .invokevirtual 95, 3), (26, .ifCond .eq 6, 3), (29, .ldc 103, 2), (31, .ireturn, 1), (32, .aload_n 0, 1), (33, .getfield 16, 3), (36, .bipush 60, 2), (38, .iload_n 1, 1), (39, .imul, 1), (40, .iload_n 3, 1), (41, .iadd, 1), (42, .iaload, 1), (43, .ireturn, 1)]
theorem kX9_get : dchk cX9_get pX9_get = true := by decide +kernel
def pX9_copy : List (Nat × Instr × Nat) := [(0, .iload_n 1, 1), (1, .invokestatic 85, 3), (4, .ifCond .eq 10, 3), (7, .iload_n 3, 1), (8, .invokestatic 85, 3), (11, .ifCond .ne 6, 3), (14, .bipush (-2), 2), (16, .ireturn, 1), (17, .aload_n 0, 1), (18, .getfield 7, 3), (21, .iload_n 1, 1), (22, .iaload, 1), (23, .ifCond .lt 12, 3), (26, .aload_n 0, 1), (27, .getfield 7, 3), (30, .iload_n 3, 1), (31, .iaload, 1), (32, .ifCond .ge 9, 3), (35, .aload_n 0, 1), (36, .iconst 1, 1), (37, .invokevirtual 91, 3), (40, .ireturn, 1), (41, .aload_n 0, 1), (42, .getfield 7, 3), (45, .iload_n 1, 1), (46, .iaload, 1), (47, .aload_n 0, 1), (48, .getfield 7, 3), (51, .iload_n 3, 1), (52, .iaload, 1), (53, .if_icmp .eq 9, 3), (56, .aload_n 0, 1), (57, .iconst 4, 1), (58, .invokevirtual 91, 3), (61, .ireturn, 1), (62, .iload_n 2, 1), (63, .ifCond .lt 48, 3), (66, .iload 4, 2), (68, .ifCond .lt 43, 3), (71, .iload 5, 2), (73, .ifCond .lt 38, 3), (76, .iload_n 2, 1), (77, .i2l, 1), (78, .iload 5, 2), (80, .i2l, 1), (81, .ladd, 1), (82, .aload_n 0, 1), (83, .getfield 13, 3), (86, .iload_n 1, 1), (87, .iaload, 1), (88, .i2l, 1), (89, .lcmp, 1), (90, .ifCond .gt 21, 3), (93, .iload 4, 2), (95, .i2l, 1), (96, .iload 5, 2), (98, .i2l, 1), (99, .ladd, 1), (100, .aload_n 0, 1), (101, .getfield 13, 3), (104, .iload_n 3, 1), (105, .iaload, 1), (106, .i2l, 1), (107, .lcmp, 1), (108, .ifCond .le 9, 3), (111, .aload_n 0, 1), (112, .iconst 2, 1), (113, .invokevirtual 91, 3), (116, .ireturn, 1), (117, .iconst 0, 1), (118, .istore 6, 2), (120, .iload 6, 2), (122, .iload 5, 2), (124, .if_icmp .ge 30, 3), (127, .aload_n 0, 1), (128, .getfield 19, 3), (131, .iload 6, 2), (133, .aload_n 0, 1), (134, .getfield 16, 3), (137, .bipush 60, 2), (139, .iload_n 1, 1), (140, .imul, 1), (141, .iload_n 2, 1), (142, .iadd, 1), (143, .iload 6, 2), (145, .iadd, 1), (146, .iaload, 1), (147, .iastore, 1), (148, .iinc 6 1, 3), (151, .goto (-31), 3), (154, .iconst 0, 1), (155, .istore 6, 2), (157, .iload 6, 2), (159, .iload 5, 2), (161, .if_icmp .ge 31, 3), (164, .aload_n 0, 1), (165, .getfield 16, 3), (168, .bipush 60, 2), (170, .iload_n 3, 1), (171, .imul, 1), (172, .iload 4, 2), (174, .iadd, 1), (175, .iload 6, 2), (177, .iadd, 1), (178, .aload_n 0, 1), (179, .getfield 19, 3), (182, .iload 6, 2), (184, .iaload, 1), (185, .iastore, 1), (186, .iinc 6 1, 3), (189, .goto (-32), 3), (192, .iconst 1, 1), (193, .ireturn, 1)]
theorem kX9_copy : dchk cX9_copy pX9_copy = true := by decide +kernel
def pX9_isText : List (Nat × Instr × Nat) := [(0, .iload_n 0, 1), (1, .i2l, 1), (2, .lconst 0, 1), (3, .ldc2_w 89, 3), (6, .invokestatic 75, 3), (9, .ireturn, 1)]
theorem kX9_isText : dchk cX9_isText pX9_isText = true := by decide +kernel
def pX9_type : List (Nat × Instr × Nat) := [(0, .iload_n 1, 1), (1, .invokestatic 104, 3), (4, .ifCond .eq 15, 3), (7, .iload_n 2, 1), (8, .i2l, 1), (9, .lconst 0, 1), (10, .ldc2_w 107, 3), (13, .invokestatic 75, 3), (16, .ifCond .ne 6, 3), (19, .bipush (-2), 2), (21, .ireturn, 1), (22, .aload_n 0, 1), (23, .getfield 25, 3), (26, .iload_n 1, 1), (27, .iaload, 1), (28, .iload_n 1, 1), (29, .ifCond .ne 8, 3), (32, .bipush 8, 2), (34, .goto 15, 3), (37, .iload_n 1, 1), (38, .iconst 1, 1), (39, .if_icmp .ne 8, 3), (42, .bipush 59, 2), (44, .goto 5, 3), (47, .bipush 47, 2), (49, .if_icmp .ne 6, 3), (52, .bipush (-4), 2), (54, .ireturn, 1), (55, .aload_n 0, 1), (56, .getfield 22, 3), (59, .bipush 60, 2), (61, .iload_n 1, 1), (62, .imul, 1), (63, .aload_n 0, 1), (64, .getfield 25, 3), (67, .iload_n 1, 1), (68, .iaload, 1), (69, .iadd, 1), (70, .iload_n 2, 1), (71, .iastore, 1), (72, .aload_n 0, 1), (73, .getfield 25, 3), (76, .iload_n 1, 1), (77, .dup2, 1), (78, .iaload, 1), (79, .iconst 1, 1), (80, .iadd, 1), (81, .iastore, 1), (82, .aload_n 0, 1), (83, .getfield 25, 3), (86, .iload_n 1, 1), (87, .iaload, 1), (88, .ireturn, 1)]
theorem kX9_type : dchk cX9_type pX9_type = true := by decide +kernel
def pX9_wipe : List (Nat × Instr × Nat) := [(0, .iload_n 1, 1), (1, .invokestatic 104, 3), (4, .ifCond .ne 6, 3), (7, .bipush (-2), 2), (9, .ireturn, 1), (10, .aload_n 0, 1), (11, .getfield 25, 3), (14, .iload_n 1, 1), (15, .iaload, 1), (16, .istore_n 2, 1), (17, .aload_n 0, 1), (18, .getfield 25, 3), (21, .iload_n 1, 1), (22, .iconst 0, 1), (23, .iastore, 1), (24, .iload_n 2, 1), (25, .ireturn, 1)]
theorem kX9_wipe : dchk cX9_wipe pX9_wipe = true := by decide +kernel
def pX9_undo : List (Nat × Instr × Nat) := [(0, .iload_n 1, 1), (1, .invokestatic 104, 3), (4, .ifCond .ne 6, 3), (7, .bipush (-2), 2), (9, .ireturn, 1), (10, .aload_n 0, 1), (11, .getfield 25, 3), (14, .iload_n 1, 1), (15, .iaload, 1), (16, .ifCond .ne 6, 3), (19, .bipush (-3), 2), (21, .ireturn, 1), (22, .aload_n 0, 1), (23, .getfield 25, 3), (26, .iload_n 1, 1), (27, .dup2, 1), (28, .iaload, 1), (29, .iconst 1, 1), (30, .isub, 1), (31, .iastore, 1), (32, .aload_n 0, 1), (33, .getfield 25, 3), (36, .iload_n 1, 1), (37, .iaload, 1), (38, .ireturn, 1)]
theorem kX9_undo : dchk cX9_undo pX9_undo = true := by decide +kernel
def pX9_figureOf : List (Nat × Instr × Nat) := [(0, .iload_n 0, 1), (1, .i2l, 1), (2, .bipush 48, 2), (4, .iload_n 1, 1), (5, .iadd, 1), (6, .i2l, 1), (7, .bipush 48, 2), (9, .iload_n 2, 1), (10, .iadd, 1), (11, .i2l, 1), (12, .invokestatic 75, 3), (15, .ifCond .eq 10, 3), (18, .iload_n 0, 1), (19, .bipush 48, 2), (21, .isub, 1), (22, .goto 5, 3), (25, .bipush (-9), 2), (27, .ireturn, 1)]
theorem kX9_figureOf : dchk cX9_figureOf pX9_figureOf = true := by decide +kernel
def pX9_letterOf : List (Nat × Instr × Nat) := [(0, .iload_n 0, 1), (1, .i2l, 1), (2, .ldc2_w 109, 3), (5, .iload_n 1, 1), (6, .i2l, 1), (7, .invokestatic 75, 3), (10, .ifCond .eq 10, 3), (13, .iload_n 0, 1), (14, .bipush 97, 2), (16, .isub, 1), (17, .goto 5, 3), (20, .bipush (-9), 2), (22, .ireturn, 1)]
theorem kX9_letterOf : dchk cX9_letterOf pX9_letterOf = true := by decide +kernel
def pX9_between : List (Nat × Instr × Nat) := [(0, .iload_n 0, 1), (1, .bipush 59, 2), (3, .if_icmp .ne 7, 3), (6, .iconst 0, 1), (7, .goto 5, 3), (10, .bipush (-9), 2), (12, .ireturn, 1)]
theorem kX9_between : dchk cX9_between pX9_between = true := by decide +kernel
def pX9_usual : List (Nat × Instr × Nat) := [(0, .iconst 0, 1), (1, .istore_n 1, 1), (2, .iload_n 1, 1), (3, .iconst 3, 1), (4, .if_icmp .ge 16, 3), (7, .aload_n 0, 1), (8, .getfield 28, 3), (11, .iload_n 1, 1), (12, .iconst 1, 1), (13, .iastore, 1), (14, .iinc 1 1, 3), (17, .goto (-15), 3), (20, .return_, 1)]
theorem kX9_usual : dchk cX9_usual pX9_usual = true := by decide +kernel
def pX9_readsChains : List (Nat × Instr × Nat) := [(0, .aload_n 0, 1), (1, .invokevirtual 111, 3), (4, .aload_n 0, 1), (5, .getfield 25, 3), (8, .iconst 0, 1), (9, .iaload, 1), (10, .istore_n 1, 1), (11, .iconst 0, 1), (12, .istore_n 2, 1), (13, .iconst 0, 1), (14, .istore_n 3, 1), (15, .iload_n 3, 1), (16, .iload_n 1, 1), (17, .if_icmp .ge 120, 3), (20, .aload_n 0, 1), (21, .getfield 22, 3), (24, .iload_n 3, 1), (25, .iaload, 1), (26, .istore 4, 2), (28, .iload_n 3, 1), (29, .iconst 3, 1), (30, .irem, 1), (31, .istore 5, 2), (33, .iload 5, 2), (35, .ifCond .ne 30, 3), (38, .iload 4, 2), (40, .bipush 114, 2), (42, .if_icmp .ne 7, 3), (45, .iconst 1, 1), (46, .goto 40, 3), (49, .iload 4, 2), (51, .bipush 108, 2), (53, .if_icmp .ne 7, 3), (56, .iconst (-1), 1), (57, .goto 29, 3), (60, .bipush (-9), 2), (62, .goto 24, 3), (65, .iload 5, 2), (67, .iconst 1, 1), (68, .if_icmp .ne 13, 3), (71, .iload 4, 2), (73, .iconst 0, 1), (74, .iconst 3, 1), (75, .invokestatic 114, 3), (78, .goto 8, 3), (81, .iload 4, 2), (83, .invokestatic 117, 3), (86, .istore 6, 2), (88, .iload 6, 2), (90, .bipush (-9), 2), (92, .if_icmp .ne 9, 3), (95, .aload_n 0, 1), (96, .invokevirtual 111, 3), (99, .iload_n 3, 1), (100, .ireturn, 1), (101, .iload 5, 2), (103, .ifCond .ne 8, 3), (106, .iload 6, 2), (108, .goto 4, 3), (111, .iload_n 2, 1), (112, .istore_n 2, 1), (113, .iload 5, 2), (115, .iconst 1, 1), (116, .if_icmp .ne 15, 3), (119, .aload_n 0, 1), (120, .getfield 28, 3), (123, .iload_n 3, 1), (124, .iconst 3, 1), (125, .idiv, 1), (126, .iload_n 2, 1), (127, .iload 6, 2), (129, .imul, 1), (130, .iastore, 1), (131, .iinc 3 1, 3), (134, .goto (-119), 3), (137, .iload_n 1, 1), (138, .ifCond .le 16, 3), (141, .iload_n 1, 1), (142, .iconst 3, 1), (143, .irem, 1), (144, .iconst 2, 1), (145, .if_icmp .eq 9, 3), (148, .aload_n 0, 1), (149, .invokevirtual 111, 3), (152, .iload_n 1, 1), (153, .ireturn, 1), (154, .iconst (-1), 1), (155, .ireturn, 1)]
theorem kX9_readsChains : dchk cX9_readsChains pX9_readsChains = true := by decide +kernel
def pX9_duckOf : List (Nat × Instr × Nat) := [(0, .iload_n 0, 1), (1, .tableswitch 86 0 3 #[31, 38, 45, 78], 31), (32, .iload_n 1, 1), (33, .iconst 0, 1), (34, .iconst 2, 1), (35, .invokestatic 114, 3), (38, .ireturn, 1), (39, .iload_n 1, 1), (40, .bipush 108, 2), (42, .invokestatic 120, 3), (45, .ireturn, 1), (46, .iload_n 1, 1), (47, .bipush 116, 2), (49, .if_icmp .ne 7, 3), (52, .iconst 0, 1), (53, .goto 25, 3), (56, .iload_n 1, 1), (57, .bipush 104, 2), (59, .if_icmp .ne 7, 3), (62, .iconst 1, 1), (63, .goto 15, 3), (66, .iload_n 1, 1), (67, .bipush 103, 2), (69, .if_icmp .ne 7, 3), (72, .iconst 2, 1), (73, .goto 5, 3), (76, .bipush (-9), 2), (78, .ireturn, 1), (79, .iload_n 1, 1), (80, .iconst 1, 1), (81, .bipush 9, 2), (83, .invokestatic 114, 3), (86, .ireturn, 1), (87, .iload_n 1, 1), (88, .invokestatic 117, 3), (91, .ireturn, 1)]
theorem kX9_duckOf : dchk cX9_duckOf pX9_duckOf = true := by decide +kernel
def pX9_isTaken : List (Nat × Instr × Nat) := [(0, .iconst 0, 1), (1, .istore_n 2, 1), (2, .iconst 0, 1), (3, .istore_n 3, 1), (4, .iload_n 3, 1), (5, .iload_n 1, 1), (6, .if_icmp .ge 61, 3), (9, .iload_n 2, 1), (10, .ifCond .ne 45, 3), (13, .aload_n 0, 1), (14, .getfield 31, 3), (17, .iconst 4, 1), (18, .iload_n 3, 1), (19, .imul, 1), (20, .iaload, 1), (21, .aload_n 0, 1), (22, .getfield 31, 3), (25, .iconst 4, 1), (26, .iload_n 1, 1), (27, .imul, 1), (28, .iaload, 1), (29, .if_icmp .ne 30, 3), (32, .aload_n 0, 1), (33, .getfield 31, 3), (36, .iconst 4, 1), (37, .iload_n 3, 1), (38, .imul, 1), (39, .iconst 1, 1), (40, .iadd, 1), (41, .iaload, 1), (42, .aload_n 0, 1), (43, .getfield 31, 3), (46, .iconst 4, 1), (47, .iload_n 1, 1), (48, .imul, 1), (49, .iconst 1, 1), (50, .iadd, 1), (51, .iaload, 1), (52, .if_icmp .ne 7, 3), (55, .iconst 1, 1), (56, .goto 4, 3), (59, .iconst 0, 1), (60, .istore_n 2, 1), (61, .iinc 3 1, 3), (64, .goto (-60), 3), (67, .iload_n 2, 1), (68, .ireturn, 1)]
theorem kX9_isTaken : dchk cX9_isTaken pX9_isTaken = true := by decide +kernel
def pX9_readsDucks : List (Nat × Instr × Nat) := [(0, .aload_n 0, 1), (1, .iconst 0, 1), (2, .putfield 123, 3), (5, .aload_n 0, 1), (6, .getfield 25, 3), (9, .iconst 1, 1), (10, .iaload, 1), (11, .istore_n 1, 1), (12, .iconst 0, 1), (13, .istore_n 2, 1), (14, .iload_n 2, 1), (15, .iload_n 1, 1), (16, .if_icmp .ge 102, 3), (19, .iload_n 2, 1), (20, .iconst 5, 1), (21, .irem, 1), (22, .istore_n 3, 1), (23, .iload_n 3, 1), (24, .aload_n 0, 1), (25, .getfield 22, 3), (28, .bipush 60, 2), (30, .iload_n 2, 1), (31, .iadd, 1), (32, .iaload, 1), (33, .invokestatic 126, 3), (36, .istore 4, 2), (38, .iload 4, 2), (40, .bipush (-9), 2), (42, .if_icmp .eq 22, 3), (45, .iload_n 3, 1), (46, .iconst 4, 1), (47, .if_icmp .ge 17, 3), (50, .aload_n 0, 1), (51, .getfield 31, 3), (54, .iconst 4, 1), (55, .iload_n 2, 1), (56, .iconst 5, 1), (57, .idiv, 1), (58, .imul, 1), (59, .iload_n 3, 1), (60, .iadd, 1), (61, .iload 4, 2), (63, .iastore, 1), (64, .iload 4, 2), (66, .bipush (-9), 2), (68, .if_icmp .eq 18, 3), (71, .iload_n 3, 1), (72, .iconst 1, 1), (73, .if_icmp .ne 20, 3), (76, .aload_n 0, 1), (77, .iload_n 2, 1), (78, .iconst 5, 1), (79, .idiv, 1), (80, .invokevirtual 129, 3), (83, .ifCond .eq 10, 3), (86, .aload_n 0, 1), (87, .iconst 0, 1), (88, .putfield 123, 3), (91, .iload_n 2, 1), (92, .ireturn, 1), (93, .aload_n 0, 1), (94, .dup, 1), (95, .getfield 123, 3), (98, .iload_n 3, 1), (99, .iconst 3, 1), (100, .if_icmp .ne 7, 3), (103, .iconst 1, 1), (104, .goto 4, 3), (107, .iconst 0, 1), (108, .iadd, 1), (109, .putfield 123, 3), (112, .iinc 2 1, 3), (115, .goto (-101), 3), (118, .iload_n 1, 1), (119, .ifCond .le 17, 3), (122, .iload_n 1, 1), (123, .iconst 5, 1), (124, .irem, 1), (125, .iconst 4, 1), (126, .if_icmp .eq 10, 3), (129, .aload_n 0, 1), (130, .iconst 0, 1), (131, .putfield 123, 3), (134, .iload_n 1, 1), (135, .ireturn, 1), (136, .iconst (-1), 1), (137, .ireturn, 1)]
theorem kX9_readsDucks : dchk cX9_readsDucks pX9_readsDucks = true := by decide +kernel
def pX9_shotOf : List (Nat × Instr × Nat) := [(0, .iload_n 0, 1), (1, .tableswitch 48 0 2 #[27, 34, 41], 27), (28, .iload_n 1, 1), (29, .bipush 120, 2), (31, .invokestatic 120, 3), (34, .ireturn, 1), (35, .iload_n 1, 1), (36, .iconst 0, 1), (37, .iconst 2, 1), (38, .invokestatic 114, 3), (41, .ireturn, 1), (42, .iload_n 1, 1), (43, .iconst 0, 1), (44, .iconst 5, 1), (45, .invokestatic 114, 3), (48, .ireturn, 1), (49, .iload_n 1, 1), (50, .invokestatic 117, 3), (53, .ireturn, 1)]
theorem kX9_shotOf : dchk cX9_shotOf pX9_shotOf = true := by decide +kernel
def pX9_readsShots : List (Nat × Instr × Nat) := [(0, .aload_n 0, 1), (1, .iconst 0, 1), (2, .putfield 132, 3), (5, .aload_n 0, 1), (6, .getfield 25, 3), (9, .iconst 2, 1), (10, .iaload, 1), (11, .istore_n 1, 1), (12, .iconst 0, 1), (13, .istore_n 2, 1), (14, .iload_n 2, 1), (15, .iload_n 1, 1), (16, .if_icmp .ge 80, 3), (19, .iload_n 2, 1), (20, .iconst 4, 1), (21, .irem, 1), (22, .istore_n 3, 1), (23, .iload_n 3, 1), (24, .aload_n 0, 1), (25, .getfield 22, 3), (28, .bipush 120, 2), (30, .iload_n 2, 1), (31, .iadd, 1), (32, .iaload, 1), (33, .invokestatic 135, 3), (36, .istore 4, 2), (38, .iload 4, 2), (40, .bipush (-9), 2), (42, .if_icmp .ne 10, 3), (45, .aload_n 0, 1), (46, .iconst 0, 1), (47, .putfield 132, 3), (50, .iload_n 2, 1), (51, .ireturn, 1), (52, .iload_n 3, 1), (53, .iconst 3, 1), (54, .if_icmp .ge 17, 3), (57, .aload_n 0, 1), (58, .getfield 34, 3), (61, .iconst 3, 1), (62, .iload_n 2, 1), (63, .iconst 4, 1), (64, .idiv, 1), (65, .imul, 1), (66, .iload_n 3, 1), (67, .iadd, 1), (68, .iload 4, 2), (70, .iastore, 1), (71, .aload_n 0, 1), (72, .dup, 1), (73, .getfield 132, 3), (76, .iload_n 3, 1), (77, .iconst 2, 1), (78, .if_icmp .ne 7, 3), (81, .iconst 1, 1), (82, .goto 4, 3), (85, .iconst 0, 1), (86, .iadd, 1), (87, .putfield 132, 3), (90, .iinc 2 1, 3), (93, .goto (-79), 3), (96, .iload_n 1, 1), (97, .ifCond .le 17, 3), (100, .iload_n 1, 1), (101, .iconst 4, 1), (102, .irem, 1), (103, .iconst 3, 1), (104, .if_icmp .eq 10, 3), (107, .aload_n 0, 1), (108, .iconst 0, 1), (109, .putfield 132, 3), (112, .iload_n 1, 1), (113, .ireturn, 1), (114, .iconst (-1), 1), (115, .ireturn, 1)]
theorem kX9_readsShots : dchk cX9_readsShots pX9_readsShots = true := by decide +kernel
def pX9_readsText : List (Nat × Instr × Nat) := [(0, .iload_n 1, 1), (1, .ifCond .ne 10, 3), (4, .aload_n 0, 1), (5, .invokevirtual 138, 3), (8, .goto 19, 3), (11, .iload_n 1, 1), (12, .iconst 1, 1), (13, .if_icmp .ne 10, 3), (16, .aload_n 0, 1), (17, .invokevirtual 142, 3), (20, .goto 7, 3), (23, .aload_n 0, 1), (24, .invokevirtual 145, 3), (27, .ireturn, 1)]
theorem kX9_readsText : dchk cX9_readsText pX9_readsText = true := by decide +kernel
def pX9_fault : List (Nat × Instr × Nat) := [(0, .iload_n 1, 1), (1, .invokestatic 104, 3), (4, .ifCond .eq 11, 3), (7, .aload_n 0, 1), (8, .iload_n 1, 1), (9, .invokevirtual 148, 3), (12, .goto 5, 3), (15, .bipush (-2), 2), (17, .ireturn, 1)]
theorem kX9_fault : dchk cX9_fault pX9_fault = true := by decide +kernel
def pX9_isChain : List (Nat × Instr × Nat) := [(0, .iload_n 0, 1), (1, .i2l, 1), (2, .lconst 0, 1), (3, .ldc2_w 89, 3), (6, .invokestatic 75, 3), (9, .ireturn, 1)]
theorem kX9_isChain : dchk cX9_isChain pX9_isChain = true := by decide +kernel
def pX9_isTick : List (Nat × Instr × Nat) := [(0, .iload_n 0, 1), (1, .i2l, 1), (2, .lconst 0, 1), (3, .ldc2_w 151, 3), (6, .invokestatic 75, 3), (9, .ireturn, 1)]
theorem kX9_isTick : dchk cX9_isTick pX9_isTick = true := by decide +kernel
def pX9_isDuck : List (Nat × Instr × Nat) := [(0, .iload_n 1, 1), (1, .i2l, 1), (2, .lconst 0, 1), (3, .aload_n 0, 1), (4, .getfield 123, 3), (7, .iconst 1, 1), (8, .isub, 1), (9, .i2l, 1), (10, .invokestatic 75, 3), (13, .ireturn, 1)]
theorem kX9_isDuck : dchk cX9_isDuck pX9_isDuck = true := by decide +kernel
def pX9_isShot : List (Nat × Instr × Nat) := [(0, .iload_n 1, 1), (1, .i2l, 1), (2, .lconst 0, 1), (3, .aload_n 0, 1), (4, .getfield 132, 3), (7, .iconst 1, 1), (8, .isub, 1), (9, .i2l, 1), (10, .invokestatic 75, 3), (13, .ireturn, 1)]
theorem kX9_isShot : dchk cX9_isShot pX9_isShot = true := by decide +kernel
def pX9_chain : List (Nat × Instr × Nat) := [(0, .aload_n 0, 1), (1, .invokevirtual 138, 3), (4, .pop, 1), (5, .iload_n 1, 1), (6, .invokestatic 153, 3), (9, .ifCond .eq 12, 3), (12, .aload_n 0, 1), (13, .getfield 28, 3), (16, .iload_n 1, 1), (17, .iaload, 1), (18, .goto 5, 3), (21, .ldc 103, 2), (23, .ireturn, 1)]
theorem kX9_chain : dchk cX9_chain pX9_chain = true := by decide +kernel
def pX9_duck : List (Nat × Instr × Nat) := [(0, .aload_n 0, 1), (1, .invokevirtual 142, 3), (4, .pop, 1), (5, .aload_n 0, 1), (6, .iload_n 1, 1), (7, .invokevirtual 156, 3), (10, .ifCond .eq 28, 3), (13, .iload_n 2, 1), (14, .i2l, 1), (15, .lconst 0, 1), (16, .ldc2_w 83, 3), (19, .invokestatic 75, 3), (22, .ifCond .eq 16, 3), (25, .aload_n 0, 1), (26, .getfield 31, 3), (29, .iconst 4, 1), (30, .iload_n 1, 1), (31, .imul, 1), (32, .iload_n 2, 1), (33, .iadd, 1), (34, .iaload, 1), (35, .goto 5, 3), (38, .bipush (-2), 2), (40, .ireturn, 1)]
theorem kX9_duck : dchk cX9_duck pX9_duck = true := by decide +kernel
def pX9_shot : List (Nat × Instr × Nat) := [(0, .aload_n 0, 1), (1, .invokevirtual 145, 3), (4, .pop, 1), (5, .aload_n 0, 1), (6, .iload_n 1, 1), (7, .invokevirtual 159, 3), (10, .ifCond .eq 28, 3), (13, .iload_n 2, 1), (14, .i2l, 1), (15, .lconst 0, 1), (16, .ldc2_w 89, 3), (19, .invokestatic 75, 3), (22, .ifCond .eq 16, 3), (25, .aload_n 0, 1), (26, .getfield 34, 3), (29, .iconst 3, 1), (30, .iload_n 1, 1), (31, .imul, 1), (32, .iload_n 2, 1), (33, .iadd, 1), (34, .iaload, 1), (35, .goto 5, 3), (38, .bipush (-2), 2), (40, .ireturn, 1)]
theorem kX9_shot : dchk cX9_shot pX9_shot = true := by decide +kernel
def pX9_rifle : List (Nat × Instr × Nat) := [(0, .iload_n 1, 1), (1, .invokestatic 162, 3), (4, .ifCond .eq 25, 3), (7, .iload_n 2, 1), (8, .i2l, 1), (9, .lconst 0, 1), (10, .iload_n 1, 1), (11, .ifCond .ne 9, 3), (14, .ldc2_w 165, 3), (17, .goto 6, 3), (20, .ldc2_w 83, 3), (23, .invokestatic 75, 3), (26, .ifCond .ne 6, 3), (29, .bipush (-2), 2), (31, .ireturn, 1), (32, .aload_n 0, 1), (33, .getfield 37, 3), (36, .iload_n 1, 1), (37, .iaload, 1), (38, .istore_n 3, 1), (39, .aload_n 0, 1), (40, .getfield 37, 3), (43, .iload_n 1, 1), (44, .iload_n 2, 1), (45, .iastore, 1), (46, .iload_n 3, 1), (47, .ireturn, 1)]
theorem kX9_rifle : dchk cX9_rifle pX9_rifle = true := by decide +kernel
def pX9_event : List (Nat × Instr × Nat) := [(0, .iload_n 1, 1), (1, .i2l, 1), (2, .lconst 0, 1), (3, .ldc2_w 89, 3), (6, .invokestatic 75, 3), (9, .ifCond .eq 22, 3), (12, .iload_n 2, 1), (13, .invokestatic 167, 3), (16, .ifCond .eq 15, 3), (19, .iload_n 3, 1), (20, .i2l, 1), (21, .lconst 0, 1), (22, .ldc2_w 170, 3), (25, .invokestatic 75, 3), (28, .ifCond .ne 6, 3), (31, .bipush (-2), 2), (33, .ireturn, 1), (34, .aload_n 0, 1), (35, .getfield 172, 3), (38, .bipush 8, 2), (40, .if_icmp .ne 6, 3), (43, .bipush (-4), 2), (45, .ireturn, 1), (46, .aload_n 0, 1), (47, .getfield 40, 3), (50, .iconst 3, 1), (51, .aload_n 0, 1), (52, .getfield 172, 3), (55, .imul, 1), (56, .iload_n 1, 1), (57, .iastore, 1), (58, .aload_n 0, 1), (59, .getfield 40, 3), (62, .iconst 3, 1), (63, .aload_n 0, 1), (64, .getfield 172, 3), (67, .imul, 1), (68, .iconst 1, 1), (69, .iadd, 1), (70, .iload_n 2, 1), (71, .iastore, 1), (72, .aload_n 0, 1), (73, .getfield 40, 3), (76, .iconst 3, 1), (77, .aload_n 0, 1), (78, .getfield 172, 3), (81, .imul, 1), (82, .iconst 2, 1), (83, .iadd, 1), (84, .iload_n 3, 1), (85, .iastore, 1), (86, .aload_n 0, 1), (87, .dup, 1), (88, .getfield 172, 3), (91, .iconst 1, 1), (92, .iadd, 1), (93, .putfield 172, 3), (96, .aload_n 0, 1), (97, .getfield 172, 3), (100, .ireturn, 1)]
theorem kX9_event : dchk cX9_event pX9_event = true := by decide +kernel
def pX9_back : List (Nat × Instr × Nat) := [(0, .aload_n 0, 1), (1, .getfield 172, 3), (4, .ifCond .ne 6, 3), (7, .bipush (-3), 2), (9, .ireturn, 1), (10, .aload_n 0, 1), (11, .dup, 1), (12, .getfield 172, 3), (15, .iconst 1, 1), (16, .isub, 1), (17, .putfield 172, 3), (20, .aload_n 0, 1), (21, .getfield 172, 3), (24, .ireturn, 1)]
theorem kX9_back : dchk cX9_back pX9_back = true := by decide +kernel
def pX9_read : List (Nat × Instr × Nat) := [(0, .iload_n 1, 1), (1, .invokestatic 85, 3), (4, .ifCond .ne 6, 3), (7, .bipush (-2), 2), (9, .ireturn, 1), (10, .aload_n 0, 1), (11, .getfield 7, 3), (14, .iload_n 1, 1), (15, .iaload, 1), (16, .ifCond .ge 9, 3), (19, .aload_n 0, 1), (20, .iconst 1, 1), (21, .invokevirtual 91, 3), (24, .ireturn, 1), (25, .iconst 0, 1), (26, .istore_n 2, 1), (27, .iconst 1, 1), (28, .istore_n 3, 1), (29, .iload_n 3, 1), (30, .ifCond .eq 80, 3), (33, .iconst 3, 1), (34, .iload_n 2, 1), (35, .imul, 1), (36, .iconst 3, 1), (37, .iadd, 1), (38, .aload_n 0, 1), (39, .getfield 13, 3), (42, .iload_n 1, 1), (43, .iaload, 1), (44, .if_icmp .gt 66, 3), (47, .bipush 60, 2), (49, .iload_n 1, 1), (50, .imul, 1), (51, .iconst 3, 1), (52, .iload_n 2, 1), (53, .imul, 1), (54, .iadd, 1), (55, .istore 4, 2), (57, .aload_n 0, 1), (58, .aload_n 0, 1), (59, .getfield 16, 3), (62, .iload 4, 2), (64, .iaload, 1), (65, .aload_n 0, 1), (66, .getfield 16, 3), (69, .iload 4, 2), (71, .iconst 1, 1), (72, .iadd, 1), (73, .iaload, 1), (74, .aload_n 0, 1), (75, .getfield 16, 3), (78, .iload 4, 2), (80, .iconst 2, 1), (81, .iadd, 1), (82, .iaload, 1), (83, .invokevirtual 175, 3), (86, .ifCond .lt 7, 3), (89, .iconst 1, 1), (90, .goto 4, 3), (93, .iconst 0, 1), (94, .istore_n 3, 1), (95, .iload_n 2, 1), (96, .iload_n 3, 1), (97, .ifCond .eq 7, 3), (100, .iconst 1, 1), (101, .goto 4, 3), (104, .iconst 0, 1), (105, .iadd, 1), (106, .istore_n 2, 1), (107, .goto (-78), 3), (110, .iload_n 2, 1), (111, .ireturn, 1)]
theorem kX9_read : dchk cX9_read pX9_read = true := by decide +kernel
def pX9_toldIn : List (Nat × Instr × Nat) := [(0, .iconst 0, 1), (1, .istore_n 3, 1), (2, .iconst 0, 1), (3, .istore 4, 2), (5, .iload 4, 2), (7, .aload_n 0, 1), (8, .getfield 172, 3), (11, .if_icmp .ge 69, 3), (14, .iload_n 3, 1), (15, .aload_n 0, 1), (16, .getfield 40, 3), (19, .iconst 3, 1), (20, .iload 4, 2), (22, .imul, 1), (23, .iaload, 1), (24, .iload_n 1, 1), (25, .if_icmp .ne 46, 3), (28, .aload_n 0, 1), (29, .getfield 40, 3), (32, .iconst 3, 1), (33, .iload 4, 2), (35, .imul, 1), (36, .iconst 1, 1), (37, .iadd, 1), (38, .iaload, 1), (39, .iload_n 2, 1), (40, .if_icmp .ne 31, 3), (43, .aload_n 0, 1), (44, .getfield 177, 3), (47, .iload 4, 2), (49, .invokestatic 180, 3), (52, .ifCond .ne 19, 3), (55, .iconst 1, 1), (56, .aload_n 0, 1), (57, .getfield 40, 3), (60, .iconst 3, 1), (61, .iload 4, 2), (63, .imul, 1), (64, .iconst 2, 1), (65, .iadd, 1), (66, .iaload, 1), (67, .ishl, 1), (68, .goto 4, 3), (71, .iconst 0, 1), (72, .ior, 1), (73, .istore_n 3, 1), (74, .iinc 4 1, 3), (77, .goto (-72), 3), (80, .iload_n 3, 1), (81, .ireturn, 1)]
theorem kX9_toldIn : dchk cX9_toldIn pX9_toldIn = true := by decide +kernel
def pX9_turns : List (Nat × Instr × Nat) := [(0, .aload_n 0, 1), (1, .iconst 0, 1), (2, .iload_n 1, 1), (3, .invokevirtual 184, 3), (6, .istore_n 2, 1), (7, .aload_n 0, 1), (8, .iconst 2, 1), (9, .iload_n 1, 1), (10, .invokevirtual 184, 3), (13, .istore_n 3, 1), (14, .iconst 0, 1), (15, .istore 4, 2), (17, .iload 4, 2), (19, .aload_n 0, 1), (20, .getfield 123, 3), (23, .if_icmp .ge 105, 3), (26, .aload_n 0, 1), (27, .getfield 31, 3), (30, .iconst 4, 1), (31, .iload 4, 2), (33, .imul, 1), (34, .iaload, 1), (35, .istore 5, 2), (37, .aload_n 0, 1), (38, .getfield 43, 3), (41, .iload 4, 2), (43, .iload_n 2, 1), (44, .iload 5, 2), (46, .invokestatic 180, 3), (49, .ifCond .eq 13, 3), (52, .aload_n 0, 1), (53, .getfield 43, 3), (56, .iload 4, 2), (58, .iaload, 1), (59, .goto 24, 3), (62, .aload_n 0, 1), (63, .getfield 43, 3), (66, .iload 4, 2), (68, .iaload, 1), (69, .aload_n 0, 1), (70, .getfield 28, 3), (73, .iload 5, 2), (75, .iaload, 1), (76, .iadd, 1), (77, .bipush 12, 2), (79, .iadd, 1), (80, .bipush 12, 2), (82, .irem, 1), (83, .iastore, 1), (84, .aload_n 0, 1), (85, .getfield 46, 3), (88, .iload 4, 2), (90, .aload_n 0, 1), (91, .getfield 43, 3), (94, .iload 4, 2), (96, .iaload, 1), (97, .iconst 5, 1), (98, .if_icmp .gt 12, 3), (101, .iload_n 3, 1), (102, .iload 4, 2), (104, .invokestatic 180, 3), (107, .ifCond .eq 7, 3), (110, .iconst 0, 1), (111, .goto 10, 3), (114, .aload_n 0, 1), (115, .getfield 46, 3), (118, .iload 4, 2), (120, .iaload, 1), (121, .iastore, 1), (122, .iinc 4 1, 3), (125, .goto (-108), 3), (128, .return_, 1)]
theorem kX9_turns : dchk cX9_turns pX9_turns = true := by decide +kernel
def pX9_target : List (Nat × Instr × Nat) := [(0, .iconst (-1), 1), (1, .istore_n 3, 1), (2, .iconst 0, 1), (3, .istore 4, 2), (5, .iload 4, 2), (7, .aload_n 0, 1), (8, .getfield 123, 3), (11, .if_icmp .ge 51, 3), (14, .aload_n 0, 1), (15, .getfield 31, 3), (18, .iconst 4, 1), (19, .iload 4, 2), (21, .imul, 1), (22, .iaload, 1), (23, .iload_n 1, 1), (24, .if_icmp .ne 30, 3), (27, .aload_n 0, 1), (28, .getfield 43, 3), (31, .iload 4, 2), (33, .iaload, 1), (34, .iload_n 2, 1), (35, .if_icmp .ne 19, 3), (38, .aload_n 0, 1), (39, .getfield 46, 3), (42, .iload 4, 2), (44, .iaload, 1), (45, .iconst 2, 1), (46, .if_icmp .eq 8, 3), (49, .iload 4, 2), (51, .goto 4, 3), (54, .iload_n 3, 1), (55, .istore_n 3, 1), (56, .iinc 4 1, 3), (59, .goto (-54), 3), (62, .iload_n 3, 1), (63, .ireturn, 1)]
theorem kX9_target : dchk cX9_target pX9_target = true := by decide +kernel
def pX9_comes : List (Nat × Instr × Nat) := [(0, .aload_n 0, 1), (1, .getfield 34, 3), (4, .iconst 3, 1), (5, .iload_n 1, 1), (6, .imul, 1), (7, .iconst 1, 1), (8, .iadd, 1), (9, .iaload, 1), (10, .istore_n 3, 1), (11, .iload_n 2, 1), (12, .i2l, 1), (13, .lconst 0, 1), (14, .ldc2_w 187, 3), (17, .invokestatic 75, 3), (20, .ifCond .eq 12, 3), (23, .aload_n 0, 1), (24, .iload_n 3, 1), (25, .iload_n 2, 1), (26, .invokevirtual 189, 3), (29, .goto 4, 3), (32, .iconst (-1), 1), (33, .istore 4, 2), (35, .aload_n 0, 1), (36, .getfield 52, 3), (39, .iload_n 1, 1), (40, .iload 4, 2), (42, .iastore, 1), (43, .iload 4, 2), (45, .iconst (-1), 1), (46, .if_icmp .eq 114, 3), (49, .aload_n 0, 1), (50, .getfield 31, 3), (53, .iconst 4, 1), (54, .iload 4, 2), (56, .imul, 1), (57, .iconst 2, 1), (58, .iadd, 1), (59, .iaload, 1), (60, .istore 5, 2), (62, .aload_n 0, 1), (63, .getfield 49, 3), (66, .iload 4, 2), (68, .dup2, 1), (69, .iaload, 1), (70, .iconst 1, 1), (71, .iadd, 1), (72, .iastore, 1), (73, .aload_n 0, 1), (74, .getfield 46, 3), (77, .iload 4, 2), (79, .iload 5, 2), (81, .iconst 1, 1), (82, .if_icmp .ne 17, 3), (85, .aload_n 0, 1), (86, .getfield 46, 3), (89, .iload 4, 2), (91, .iaload, 1), (92, .ifCond .ne 7, 3), (95, .iconst 1, 1), (96, .goto 4, 3), (99, .iconst 2, 1), (100, .iastore, 1), (101, .aload_n 0, 1), (102, .getfield 55, 3), (105, .iload_n 1, 1), (106, .dup2, 1), (107, .iaload, 1), (108, .aload_n 0, 1), (109, .getfield 46, 3), (112, .iload 4, 2), (114, .iaload, 1), (115, .iconst 2, 1), (116, .if_icmp .ne 17, 3), (119, .aload_n 0, 1), (120, .getfield 31, 3), (123, .iconst 4, 1), (124, .iload 4, 2), (126, .imul, 1), (127, .iconst 3, 1), (128, .iadd, 1), (129, .iaload, 1), (130, .goto 4, 3), (133, .iconst 0, 1), (134, .iadd, 1), (135, .iastore, 1), (136, .iinc 3 1, 3), (139, .iload 5, 2), (141, .iconst 2, 1), (142, .if_icmp .ne 12, 3), (145, .aload_n 0, 1), (146, .iload_n 3, 1), (147, .iload_n 2, 1), (148, .invokevirtual 189, 3), (151, .goto 4, 3), (154, .iconst (-1), 1), (155, .istore 4, 2), (157, .goto (-114), 3), (160, .return_, 1)]
theorem kX9_comes : dchk cX9_comes pX9_comes = true := by decide +kernel
def pX9_passes : List (Nat × Instr × Nat) := [(0, .aload_n 0, 1), (1, .iload_n 1, 1), (2, .invokevirtual 192, 3), (5, .aload_n 0, 1), (6, .getfield 37, 3), (9, .iconst 0, 1), (10, .iaload, 1), (11, .iconst 2, 1), (12, .isub, 1), (13, .aload_n 0, 1), (14, .iconst 1, 1), (15, .iload_n 1, 1), (16, .invokevirtual 184, 3), (19, .ifCond .eq 7, 3), (22, .iconst 1, 1), (23, .goto 4, 3), (26, .iconst 0, 1), (27, .iadd, 1), (28, .istore_n 2, 1), (29, .iconst 0, 1), (30, .istore_n 3, 1), (31, .iload_n 3, 1), (32, .aload_n 0, 1), (33, .getfield 132, 3), (36, .if_icmp .ge 45, 3), (39, .aload_n 0, 1), (40, .getfield 34, 3), (43, .iconst 3, 1), (44, .iload_n 3, 1), (45, .imul, 1), (46, .iaload, 1), (47, .aload_n 0, 1), (48, .getfield 37, 3), (51, .iconst 1, 1), (52, .iaload, 1), (53, .iadd, 1), (54, .iload_n 1, 1), (55, .if_icmp .ne 20, 3), (58, .aload_n 0, 1), (59, .iload_n 3, 1), (60, .aload_n 0, 1), (61, .getfield 34, 3), (64, .iconst 3, 1), (65, .iload_n 3, 1), (66, .imul, 1), (67, .iconst 2, 1), (68, .iadd, 1), (69, .iaload, 1), (70, .iload_n 2, 1), (71, .iadd, 1), (72, .invokevirtual 196, 3), (75, .iinc 3 1, 3), (78, .goto (-47), 3), (81, .iconst 0, 1), (82, .istore_n 3, 1), (83, .iload_n 3, 1), (84, .aload_n 0, 1), (85, .getfield 123, 3), (88, .if_icmp .ge 60, 3), (91, .aload_n 0, 1), (92, .getfield 58, 3), (95, .bipush 12, 2), (97, .iload_n 1, 1), (98, .imul, 1), (99, .iload_n 3, 1), (100, .iadd, 1), (101, .aload_n 0, 1), (102, .getfield 43, 3), (105, .iload_n 3, 1), (106, .iaload, 1), (107, .iastore, 1), (108, .aload_n 0, 1), (109, .getfield 61, 3), (112, .bipush 12, 2), (114, .iload_n 1, 1), (115, .imul, 1), (116, .iload_n 3, 1), (117, .iadd, 1), (118, .aload_n 0, 1), (119, .getfield 46, 3), (122, .iload_n 3, 1), (123, .iaload, 1), (124, .iastore, 1), (125, .aload_n 0, 1), (126, .getfield 64, 3), (129, .bipush 12, 2), (131, .iload_n 1, 1), (132, .imul, 1), (133, .iload_n 3, 1), (134, .iadd, 1), (135, .aload_n 0, 1), (136, .getfield 49, 3), (139, .iload_n 3, 1), (140, .iaload, 1), (141, .iastore, 1), (142, .iinc 3 1, 3), (145, .goto (-62), 3), (148, .return_, 1)]
theorem kX9_passes : dchk cX9_passes pX9_passes = true := by decide +kernel
def pX9_lives : List (Nat × Instr × Nat) := [(0, .iconst 0, 1), (1, .istore_n 1, 1), (2, .iload_n 1, 1), (3, .aload_n 0, 1), (4, .getfield 123, 3), (7, .if_icmp .ge 39, 3), (10, .aload_n 0, 1), (11, .getfield 43, 3), (14, .iload_n 1, 1), (15, .aload_n 0, 1), (16, .getfield 31, 3), (19, .iconst 4, 1), (20, .iload_n 1, 1), (21, .imul, 1), (22, .iconst 1, 1), (23, .iadd, 1), (24, .iaload, 1), (25, .iastore, 1), (26, .aload_n 0, 1), (27, .getfield 46, 3), (30, .iload_n 1, 1), (31, .iconst 0, 1), (32, .iastore, 1), (33, .aload_n 0, 1), (34, .getfield 49, 3), (37, .iload_n 1, 1), (38, .iconst 0, 1), (39, .iastore, 1), (40, .iinc 1 1, 3), (43, .goto (-41), 3), (46, .iconst 0, 1), (47, .istore_n 1, 1), (48, .iload_n 1, 1), (49, .bipush 12, 2), (51, .if_icmp .ge 23, 3), (54, .aload_n 0, 1), (55, .getfield 52, 3), (58, .iload_n 1, 1), (59, .iconst (-1), 1), (60, .iastore, 1), (61, .aload_n 0, 1), (62, .getfield 55, 3), (65, .iload_n 1, 1), (66, .iconst 0, 1), (67, .iastore, 1), (68, .iinc 1 1, 3), (71, .goto (-23), 3), (74, .iconst 0, 1), (75, .istore_n 1, 1), (76, .iload_n 1, 1), (77, .bipush 24, 2), (79, .if_icmp .ge 14, 3), (82, .aload_n 0, 1), (83, .iload_n 1, 1), (84, .invokevirtual 200, 3), (87, .iinc 1 1, 3), (90, .goto (-14), 3), (93, .return_, 1)]
theorem kX9_lives : dchk cX9_lives pX9_lives = true := by decide +kernel
def pX9_find : List (Nat × Instr × Nat) := [(0, .aload_n 0, 1), (1, .invokevirtual 138, 3), (4, .pop, 1), (5, .aload_n 0, 1), (6, .invokevirtual 142, 3), (9, .pop, 1), (10, .aload_n 0, 1), (11, .invokevirtual 145, 3), (14, .pop, 1), (15, .aload_n 0, 1), (16, .invokevirtual 203, 3), (19, .return_, 1)]
theorem kX9_find : dchk cX9_find pX9_find = true := by decide +kernel
def pX9_atBy : List (Nat × Instr × Nat) := [(0, .bipush 12, 2), (2, .iload_n 1, 1), (3, .imul, 1), (4, .iload_n 2, 1), (5, .iadd, 1), (6, .istore 4, 2), (8, .iload_n 3, 1), (9, .ifCond .ne 13, 3), (12, .aload_n 0, 1), (13, .getfield 58, 3), (16, .iload 4, 2), (18, .iaload, 1), (19, .goto 25, 3), (22, .iload_n 3, 1), (23, .iconst 1, 1), (24, .if_icmp .ne 13, 3), (27, .aload_n 0, 1), (28, .getfield 61, 3), (31, .iload 4, 2), (33, .iaload, 1), (34, .goto 10, 3), (37, .aload_n 0, 1), (38, .getfield 64, 3), (41, .iload 4, 2), (43, .iaload, 1), (44, .ireturn, 1)]
theorem kX9_atBy : dchk cX9_atBy pX9_atBy = true := by decide +kernel
def pX9_at : List (Nat × Instr × Nat) := [(0, .aload_n 0, 1), (1, .invokevirtual 206, 3), (4, .iload_n 1, 1), (5, .invokestatic 167, 3), (8, .ifCond .eq 33, 3), (11, .aload_n 0, 1), (12, .iload_n 2, 1), (13, .invokevirtual 156, 3), (16, .ifCond .eq 25, 3), (19, .iload_n 3, 1), (20, .i2l, 1), (21, .lconst 0, 1), (22, .ldc2_w 89, 3), (25, .invokestatic 75, 3), (28, .ifCond .eq 13, 3), (31, .aload_n 0, 1), (32, .iload_n 1, 1), (33, .iload_n 2, 1), (34, .iload_n 3, 1), (35, .invokevirtual 209, 3), (38, .goto 5, 3), (41, .bipush (-2), 2), (43, .ireturn, 1)]
theorem kX9_at : dchk cX9_at pX9_at = true := by decide +kernel
def pX9_seesBy : List (Nat × Instr × Nat) := [(0, .iconst (-1), 1), (1, .istore 4, 2), (3, .iconst 0, 1), (4, .istore 5, 2), (6, .iload 5, 2), (8, .aload_n 0, 1), (9, .getfield 123, 3), (12, .if_icmp .ge 47, 3), (15, .aload_n 0, 1), (16, .getfield 31, 3), (19, .iconst 4, 1), (20, .iload 5, 2), (22, .imul, 1), (23, .iaload, 1), (24, .iload_n 2, 1), (25, .if_icmp .ne 24, 3), (28, .aload_n 0, 1), (29, .getfield 58, 3), (32, .bipush 12, 2), (34, .iload_n 1, 1), (35, .imul, 1), (36, .iload 5, 2), (38, .iadd, 1), (39, .iaload, 1), (40, .iload_n 3, 1), (41, .if_icmp .ne 8, 3), (44, .iload 5, 2), (46, .goto 5, 3), (49, .iload 4, 2), (51, .istore 4, 2), (53, .iinc 5 1, 3), (56, .goto (-50), 3), (59, .iload 4, 2), (61, .ireturn, 1)]
theorem kX9_seesBy : dchk cX9_seesBy pX9_seesBy = true := by decide +kernel
def pX9_sees : List (Nat × Instr × Nat) := [(0, .aload_n 0, 1), (1, .invokevirtual 206, 3), (4, .iload_n 1, 1), (5, .invokestatic 167, 3), (8, .ifCond .eq 32, 3), (11, .iload_n 2, 1), (12, .invokestatic 153, 3), (15, .ifCond .eq 25, 3), (18, .iload_n 3, 1), (19, .i2l, 1), (20, .lconst 0, 1), (21, .ldc2_w 170, 3), (24, .invokestatic 75, 3), (27, .ifCond .eq 13, 3), (30, .aload_n 0, 1), (31, .iload_n 1, 1), (32, .iload_n 2, 1), (33, .iload_n 3, 1), (34, .invokevirtual 212, 3), (37, .goto 5, 3), (40, .bipush (-2), 2), (42, .ireturn, 1)]
theorem kX9_sees : dchk cX9_sees pX9_sees = true := by decide +kernel
def pX9_downBits : List (Nat × Instr × Nat) := [(0, .iconst 0, 1), (1, .istore_n 2, 1), (2, .iconst 0, 1), (3, .istore_n 3, 1), (4, .iload_n 3, 1), (5, .aload_n 0, 1), (6, .getfield 123, 3), (9, .if_icmp .ge 34, 3), (12, .iload_n 2, 1), (13, .aload_n 0, 1), (14, .getfield 61, 3), (17, .bipush 12, 2), (19, .iload_n 1, 1), (20, .imul, 1), (21, .iload_n 3, 1), (22, .iadd, 1), (23, .iaload, 1), (24, .iconst 2, 1), (25, .if_icmp .ne 9, 3), (28, .iconst 1, 1), (29, .iload_n 3, 1), (30, .ishl, 1), (31, .goto 4, 3), (34, .iconst 0, 1), (35, .ior, 1), (36, .istore_n 2, 1), (37, .iinc 3 1, 3), (40, .goto (-36), 3), (43, .iload_n 2, 1), (44, .ireturn, 1)]
theorem kX9_downBits : dchk cX9_downBits pX9_downBits = true := by decide +kernel
def pX9_downBy : List (Nat × Instr × Nat) := [(0, .iconst 0, 1), (1, .istore_n 2, 1), (2, .iconst 0, 1), (3, .istore_n 3, 1), (4, .iload_n 3, 1), (5, .aload_n 0, 1), (6, .getfield 123, 3), (9, .if_icmp .ge 32, 3), (12, .iload_n 2, 1), (13, .aload_n 0, 1), (14, .getfield 61, 3), (17, .bipush 12, 2), (19, .iload_n 1, 1), (20, .imul, 1), (21, .iload_n 3, 1), (22, .iadd, 1), (23, .iaload, 1), (24, .iconst 2, 1), (25, .if_icmp .ne 7, 3), (28, .iconst 1, 1), (29, .goto 4, 3), (32, .iconst 0, 1), (33, .iadd, 1), (34, .istore_n 2, 1), (35, .iinc 3 1, 3), (38, .goto (-34), 3), (41, .iload_n 2, 1), (42, .ireturn, 1)]
theorem kX9_downBy : dchk cX9_downBy pX9_downBy = true := by decide +kernel
def pX9_down : List (Nat × Instr × Nat) := [(0, .aload_n 0, 1), (1, .invokevirtual 206, 3), (4, .iload_n 1, 1), (5, .invokestatic 167, 3), (8, .ifCond .eq 11, 3), (11, .aload_n 0, 1), (12, .iload_n 1, 1), (13, .invokevirtual 215, 3), (16, .goto 5, 3), (19, .bipush (-2), 2), (21, .ireturn, 1)]
theorem kX9_down : dchk cX9_down pX9_down = true := by decide +kernel
def pX9_hitsBy : List (Nat × Instr × Nat) := [(0, .aload_n 0, 1), (1, .getfield 34, 3), (4, .iconst 3, 1), (5, .iload_n 1, 1), (6, .imul, 1), (7, .iaload, 1), (8, .aload_n 0, 1), (9, .getfield 37, 3), (12, .iconst 1, 1), (13, .iaload, 1), (14, .iadd, 1), (15, .istore_n 3, 1), (16, .iload_n 2, 1), (17, .ifCond .ne 17, 3), (20, .iload_n 3, 1), (21, .bipush 23, 2), (23, .if_icmp .le 7, 3), (26, .iconst (-1), 1), (27, .goto 27, 3), (30, .iload_n 3, 1), (31, .goto 23, 3), (34, .iload_n 2, 1), (35, .iconst 1, 1), (36, .if_icmp .ne 12, 3), (39, .aload_n 0, 1), (40, .getfield 52, 3), (43, .iload_n 1, 1), (44, .iaload, 1), (45, .goto 9, 3), (48, .aload_n 0, 1), (49, .getfield 55, 3), (52, .iload_n 1, 1), (53, .iaload, 1), (54, .ireturn, 1)]
theorem kX9_hitsBy : dchk cX9_hitsBy pX9_hitsBy = true := by decide +kernel
def pX9_hits : List (Nat × Instr × Nat) := [(0, .aload_n 0, 1), (1, .invokevirtual 206, 3), (4, .aload_n 0, 1), (5, .iload_n 1, 1), (6, .invokevirtual 159, 3), (9, .ifCond .eq 24, 3), (12, .iload_n 2, 1), (13, .i2l, 1), (14, .lconst 0, 1), (15, .ldc2_w 89, 3), (18, .invokestatic 75, 3), (21, .ifCond .eq 12, 3), (24, .aload_n 0, 1), (25, .iload_n 1, 1), (26, .iload_n 2, 1), (27, .invokevirtual 218, 3), (30, .goto 5, 3), (33, .bipush (-2), 2), (35, .ireturn, 1)]
theorem kX9_hits : dchk cX9_hits pX9_hits = true := by decide +kernel
def pX9_score : List (Nat × Instr × Nat) := [(0, .iconst 0, 1), (1, .istore_n 1, 1), (2, .iconst 0, 1), (3, .istore_n 2, 1), (4, .iload_n 2, 1), (5, .aload_n 0, 1), (6, .getfield 132, 3), (9, .if_icmp .ge 18, 3), (12, .iload_n 1, 1), (13, .aload_n 0, 1), (14, .getfield 55, 3), (17, .iload_n 2, 1), (18, .iaload, 1), (19, .iadd, 1), (20, .istore_n 1, 1), (21, .iinc 2 1, 3), (24, .goto (-20), 3), (27, .iload_n 1, 1), (28, .ireturn, 1)]
theorem kX9_score : dchk cX9_score pX9_score = true := by decide +kernel
def pX9_manyHit : List (Nat × Instr × Nat) := [(0, .iconst 0, 1), (1, .istore_n 1, 1), (2, .iconst 0, 1), (3, .istore_n 2, 1), (4, .iload_n 2, 1), (5, .aload_n 0, 1), (6, .getfield 132, 3), (9, .if_icmp .ge 27, 3), (12, .iload_n 1, 1), (13, .aload_n 0, 1), (14, .getfield 52, 3), (17, .iload_n 2, 1), (18, .iaload, 1), (19, .iconst (-1), 1), (20, .if_icmp .eq 7, 3), (23, .iconst 1, 1), (24, .goto 4, 3), (27, .iconst 0, 1), (28, .iadd, 1), (29, .istore_n 1, 1), (30, .iinc 2 1, 3), (33, .goto (-29), 3), (36, .iload_n 1, 1), (37, .ireturn, 1)]
theorem kX9_manyHit : dchk cX9_manyHit pX9_manyHit = true := by decide +kernel
def pX9_sumBy : List (Nat × Instr × Nat) := [(0, .iload_n 1, 1), (1, .ifCond .ne 10, 3), (4, .aload_n 0, 1), (5, .invokevirtual 221, 3), (8, .goto 24, 3), (11, .iload_n 1, 1), (12, .iconst 1, 1), (13, .if_icmp .ne 10, 3), (16, .aload_n 0, 1), (17, .invokevirtual 224, 3), (20, .goto 12, 3), (23, .aload_n 0, 1), (24, .getfield 132, 3), (27, .aload_n 0, 1), (28, .invokevirtual 224, 3), (31, .isub, 1), (32, .ireturn, 1)]
theorem kX9_sumBy : dchk cX9_sumBy pX9_sumBy = true := by decide +kernel
def pX9_sum : List (Nat × Instr × Nat) := [(0, .aload_n 0, 1), (1, .invokevirtual 206, 3), (4, .iload_n 1, 1), (5, .i2l, 1), (6, .lconst 0, 1), (7, .ldc2_w 89, 3), (10, .invokestatic 75, 3), (13, .ifCond .eq 11, 3), (16, .aload_n 0, 1), (17, .iload_n 1, 1), (18, .invokevirtual 227, 3), (21, .goto 5, 3), (24, .bipush (-2), 2), (26, .ireturn, 1)]
theorem kX9_sum : dchk cX9_sum pX9_sum = true := by decide +kernel
def pX9_runBy : List (Nat × Instr × Nat) := [(0, .iconst 0, 1), (1, .istore_n 2, 1), (2, .iconst (-1), 1), (3, .istore_n 3, 1), (4, .iconst 0, 1), (5, .istore 4, 2), (7, .iconst 0, 1), (8, .istore 5, 2), (10, .iload 5, 2), (12, .aload_n 0, 1), (13, .getfield 132, 3), (16, .if_icmp .ge 55, 3), (19, .aload_n 0, 1), (20, .getfield 52, 3), (23, .iload 5, 2), (25, .iaload, 1), (26, .iconst (-1), 1), (27, .if_icmp .eq 10, 3), (30, .iload 4, 2), (32, .iconst 1, 1), (33, .iadd, 1), (34, .goto 4, 3), (37, .iconst 0, 1), (38, .istore 4, 2), (40, .iload 4, 2), (42, .iload_n 2, 1), (43, .if_icmp .le 13, 3), (46, .iload 5, 2), (48, .iload 4, 2), (50, .isub, 1), (51, .iconst 1, 1), (52, .iadd, 1), (53, .goto 4, 3), (56, .iload_n 3, 1), (57, .istore_n 3, 1), (58, .iload 4, 2), (60, .iload_n 2, 1), (61, .invokestatic 230, 3), (64, .istore_n 2, 1), (65, .iinc 5 1, 3), (68, .goto (-58), 3), (71, .iload_n 1, 1), (72, .ifCond .ne 7, 3), (75, .iload_n 2, 1), (76, .goto 4, 3), (79, .iload_n 3, 1), (80, .ireturn, 1)]
theorem kX9_runBy : dchk cX9_runBy pX9_runBy = true := by decide +kernel
def pX9_run : List (Nat × Instr × Nat) := [(0, .aload_n 0, 1), (1, .invokevirtual 206, 3), (4, .iload_n 1, 1), (5, .invokestatic 162, 3), (8, .ifCond .eq 11, 3), (11, .aload_n 0, 1), (12, .iload_n 1, 1), (13, .invokevirtual 233, 3), (16, .goto 5, 3), (19, .bipush (-2), 2), (21, .ireturn, 1)]
theorem kX9_run : dchk cX9_run pX9_run = true := by decide +kernel
def pX9_easyNow : List (Nat × Instr × Nat) := [(0, .iconst (-1), 1), (1, .istore_n 1, 1), (2, .iconst 0, 1), (3, .istore_n 2, 1), (4, .iconst 0, 1), (5, .istore_n 3, 1), (6, .iload_n 3, 1), (7, .aload_n 0, 1), (8, .getfield 123, 3), (11, .if_icmp .ge 36, 3), (14, .aload_n 0, 1), (15, .getfield 49, 3), (18, .iload_n 3, 1), (19, .iaload, 1), (20, .iload_n 2, 1), (21, .if_icmp .le 7, 3), (24, .iload_n 3, 1), (25, .goto 4, 3), (28, .iload_n 1, 1), (29, .istore_n 1, 1), (30, .aload_n 0, 1), (31, .getfield 49, 3), (34, .iload_n 3, 1), (35, .iaload, 1), (36, .iload_n 2, 1), (37, .invokestatic 230, 3), (40, .istore_n 2, 1), (41, .iinc 3 1, 3), (44, .goto (-38), 3), (47, .iload_n 1, 1), (48, .ireturn, 1)]
theorem kX9_easyNow : dchk cX9_easyNow pX9_easyNow = true := by decide +kernel
def pX9_easy : List (Nat × Instr × Nat) := [(0, .aload_n 0, 1), (1, .invokevirtual 206, 3), (4, .aload_n 0, 1), (5, .invokevirtual 236, 3), (8, .ireturn, 1)]
theorem kX9_easy : dchk cX9_easy pX9_easy = true := by decide +kernel
def pX9_safeNow : List (Nat × Instr × Nat) := [(0, .iconst 0, 1), (1, .istore_n 1, 1), (2, .iconst 0, 1), (3, .istore_n 2, 1), (4, .iload_n 2, 1), (5, .aload_n 0, 1), (6, .getfield 123, 3), (9, .if_icmp .ge 28, 3), (12, .iload_n 1, 1), (13, .aload_n 0, 1), (14, .getfield 49, 3), (17, .iload_n 2, 1), (18, .iaload, 1), (19, .ifCond .ne 9, 3), (22, .iconst 1, 1), (23, .iload_n 2, 1), (24, .ishl, 1), (25, .goto 4, 3), (28, .iconst 0, 1), (29, .ior, 1), (30, .istore_n 1, 1), (31, .iinc 2 1, 3), (34, .goto (-30), 3), (37, .iload_n 1, 1), (38, .ireturn, 1)]
theorem kX9_safeNow : dchk cX9_safeNow pX9_safeNow = true := by decide +kernel
def pX9_safe : List (Nat × Instr × Nat) := [(0, .aload_n 0, 1), (1, .invokevirtual 206, 3), (4, .aload_n 0, 1), (5, .invokevirtual 239, 3), (8, .ireturn, 1)]
theorem kX9_safe : dchk cX9_safe pX9_safe = true := by decide +kernel
def pX9_shotBetter : List (Nat × Instr × Nat) := [(0, .aload_n 0, 1), (1, .getfield 34, 3), (4, .iload_n 1, 1), (5, .iaload, 1), (6, .istore 4, 2), (8, .iconst (-1), 1), (9, .istore 5, 2), (11, .iconst (-1), 1), (12, .istore 6, 2), (14, .iconst 0, 1), (15, .istore 7, 2), (17, .iload 7, 2), (19, .iload_n 2, 1), (20, .if_icmp .ge 52, 3), (23, .aload_n 0, 1), (24, .getfield 34, 3), (27, .iload_n 1, 1), (28, .iload 7, 2), (30, .iastore, 1), (31, .aload_n 0, 1), (32, .invokevirtual 203, 3), (35, .aload_n 0, 1), (36, .invokevirtual 221, 3), (39, .istore 8, 2), (41, .iload 8, 2), (43, .iload 6, 2), (45, .if_icmp .le 8, 3), (48, .iload 7, 2), (50, .goto 5, 3), (53, .iload 5, 2), (55, .istore 5, 2), (57, .iload 8, 2), (59, .iload 6, 2), (61, .invokestatic 230, 3), (64, .istore 6, 2), (66, .iinc 7 1, 3), (69, .goto (-52), 3), (72, .aload_n 0, 1), (73, .getfield 34, 3), (76, .iload_n 1, 1), (77, .iload 4, 2), (79, .iastore, 1), (80, .iload_n 3, 1), (81, .ifCond .ne 8, 3), (84, .iload 5, 2), (86, .goto 5, 3), (89, .iload 6, 2), (91, .ireturn, 1)]
theorem kX9_shotBetter : dchk cX9_shotBetter pX9_shotBetter = true := by decide +kernel
def pX9_aim : List (Nat × Instr × Nat) := [(0, .aload_n 0, 1), (1, .invokevirtual 206, 3), (4, .aload_n 0, 1), (5, .iload_n 1, 1), (6, .invokevirtual 159, 3), (9, .ifCond .eq 25, 3), (12, .iload_n 2, 1), (13, .invokestatic 162, 3), (16, .ifCond .eq 18, 3), (19, .aload_n 0, 1), (20, .iconst 3, 1), (21, .iload_n 1, 1), (22, .imul, 1), (23, .iconst 2, 1), (24, .iadd, 1), (25, .bipush 6, 2), (27, .iload_n 2, 1), (28, .invokevirtual 242, 3), (31, .goto 5, 3), (34, .bipush (-2), 2), (36, .ireturn, 1)]
theorem kX9_aim : dchk cX9_aim pX9_aim = true := by decide +kernel
def pX9_fire : List (Nat × Instr × Nat) := [(0, .aload_n 0, 1), (1, .invokevirtual 206, 3), (4, .aload_n 0, 1), (5, .iload_n 1, 1), (6, .invokevirtual 159, 3), (9, .ifCond .eq 23, 3), (12, .iload_n 2, 1), (13, .invokestatic 162, 3), (16, .ifCond .eq 16, 3), (19, .aload_n 0, 1), (20, .iconst 3, 1), (21, .iload_n 1, 1), (22, .imul, 1), (23, .bipush 24, 2), (25, .iload_n 2, 1), (26, .invokevirtual 242, 3), (29, .goto 5, 3), (32, .bipush (-2), 2), (34, .ireturn, 1)]
theorem kX9_fire : dchk cX9_fire pX9_fire = true := by decide +kernel
def pX9_mendBy : List (Nat × Instr × Nat) := [(0, .aload_n 0, 1), (1, .getfield 37, 3), (4, .iconst 0, 1), (5, .iaload, 1), (6, .istore_n 2, 1), (7, .iconst (-1), 1), (8, .istore_n 3, 1), (9, .iconst (-1), 1), (10, .istore 4, 2), (12, .iconst 0, 1), (13, .istore 5, 2), (15, .iload 5, 2), (17, .iconst 5, 1), (18, .if_icmp .ge 50, 3), (21, .aload_n 0, 1), (22, .getfield 37, 3), (25, .iconst 0, 1), (26, .iload 5, 2), (28, .iastore, 1), (29, .aload_n 0, 1), (30, .invokevirtual 203, 3), (33, .aload_n 0, 1), (34, .invokevirtual 221, 3), (37, .istore 6, 2), (39, .iload 6, 2), (41, .iload 4, 2), (43, .if_icmp .le 8, 3), (46, .iload 5, 2), (48, .goto 4, 3), (51, .iload_n 3, 1), (52, .istore_n 3, 1), (53, .iload 6, 2), (55, .iload 4, 2), (57, .invokestatic 230, 3), (60, .istore 4, 2), (62, .iinc 5 1, 3), (65, .goto (-50), 3), (68, .aload_n 0, 1), (69, .getfield 37, 3), (72, .iconst 0, 1), (73, .iload_n 2, 1), (74, .iastore, 1), (75, .iload_n 1, 1), (76, .ifCond .ne 7, 3), (79, .iload_n 3, 1), (80, .goto 5, 3), (83, .iload 4, 2), (85, .ireturn, 1)]
theorem kX9_mendBy : dchk cX9_mendBy pX9_mendBy = true := by decide +kernel
def pX9_mend : List (Nat × Instr × Nat) := [(0, .aload_n 0, 1), (1, .invokevirtual 206, 3), (4, .iload_n 1, 1), (5, .invokestatic 162, 3), (8, .ifCond .eq 11, 3), (11, .aload_n 0, 1), (12, .iload_n 1, 1), (13, .invokevirtual 245, 3), (16, .goto 5, 3), (19, .bipush (-2), 2), (21, .ireturn, 1)]
theorem kX9_mend : dchk cX9_mend pX9_mend = true := by decide +kernel
def pX9_isSpared : List (Nat × Instr × Nat) := [(0, .aload_n 0, 1), (1, .iload_n 1, 1), (2, .putfield 177, 3), (5, .aload_n 0, 1), (6, .invokevirtual 203, 3), (9, .aload_n 0, 1), (10, .iconst 0, 1), (11, .putfield 177, 3), (14, .aload_n 0, 1), (15, .invokevirtual 224, 3), (18, .aload_n 0, 1), (19, .getfield 132, 3), (22, .if_icmp .ne 7, 3), (25, .iconst 1, 1), (26, .goto 4, 3), (29, .iconst 0, 1), (30, .ireturn, 1)]
theorem kX9_isSpared : dchk cX9_isSpared pX9_isSpared = true := by decide +kernel
def pX9_spareBy : List (Nat × Instr × Nat) := [(0, .aload_n 0, 1), (1, .iconst 0, 1), (2, .invokevirtual 248, 3), (5, .ifCond .eq 14, 3), (8, .iload_n 1, 1), (9, .iconst (-1), 1), (10, .if_icmp .ne 7, 3), (13, .iconst 0, 1), (14, .goto 4, 3), (17, .iconst (-1), 1), (18, .ireturn, 1), (19, .iconst 0, 1), (20, .istore_n 2, 1), (21, .iload_n 2, 1), (22, .aload_n 0, 1), (23, .getfield 172, 3), (26, .if_icmp .ge 38, 3), (29, .aload_n 0, 1), (30, .iconst 1, 1), (31, .iload_n 2, 1), (32, .ishl, 1), (33, .invokevirtual 248, 3), (36, .ifCond .eq 22, 3), (39, .iload_n 1, 1), (40, .iconst (-1), 1), (41, .if_icmp .ne 7, 3), (44, .iconst 1, 1), (45, .goto 12, 3), (48, .iload_n 1, 1), (49, .ifCond .ne 7, 3), (52, .iload_n 2, 1), (53, .goto 4, 3), (56, .iconst (-1), 1), (57, .ireturn, 1), (58, .iinc 2 1, 3), (61, .goto (-40), 3), (64, .iconst 0, 1), (65, .istore_n 2, 1), (66, .iload_n 2, 1), (67, .aload_n 0, 1), (68, .getfield 172, 3), (71, .if_icmp .ge 60, 3), (74, .iload_n 2, 1), (75, .iconst 1, 1), (76, .iadd, 1), (77, .istore_n 3, 1), (78, .iload_n 3, 1), (79, .aload_n 0, 1), (80, .getfield 172, 3), (83, .if_icmp .ge 42, 3), (86, .aload_n 0, 1), (87, .iconst 1, 1), (88, .iload_n 2, 1), (89, .ishl, 1), (90, .iconst 1, 1), (91, .iload_n 3, 1), (92, .ishl, 1), (93, .ior, 1), (94, .invokevirtual 248, 3), (97, .ifCond .eq 22, 3), (100, .iload_n 1, 1), (101, .iconst (-1), 1), (102, .if_icmp .ne 7, 3), (105, .iconst 2, 1), (106, .goto 12, 3), (109, .iload_n 1, 1), (110, .ifCond .ne 7, 3), (113, .iload_n 2, 1), (114, .goto 4, 3), (117, .iload_n 3, 1), (118, .ireturn, 1), (119, .iinc 3 1, 3), (122, .goto (-44), 3), (125, .iinc 2 1, 3), (128, .goto (-62), 3), (131, .iconst (-1), 1), (132, .ireturn, 1)]
theorem kX9_spareBy : dchk cX9_spareBy pX9_spareBy = true := by decide +kernel
def pX9_spare : List (Nat × Instr × Nat) := [(0, .aload_n 0, 1), (1, .invokevirtual 206, 3), (4, .iload_n 1, 1), (5, .i2l, 1), (6, .ldc2_w 251, 3), (9, .lconst 1, 1), (10, .invokestatic 75, 3), (13, .ifCond .eq 11, 3), (16, .aload_n 0, 1), (17, .iload_n 1, 1), (18, .invokevirtual 253, 3), (21, .goto 5, 3), (24, .bipush (-2), 2), (26, .ireturn, 1)]
theorem kX9_spare : dchk cX9_spare pX9_spare = true := by decide +kernel
def pX9_seen : List (Nat × Instr × Nat) := [(0, .iload_n 1, 1), (1, .invokestatic 167, 3), (4, .ifCond .eq 22, 3), (7, .iload_n 2, 1), (8, .i2l, 1), (9, .lconst 0, 1), (10, .ldc2_w 170, 3), (13, .invokestatic 75, 3), (16, .ifCond .eq 10, 3), (19, .iload_n 3, 1), (20, .invokestatic 162, 3), (23, .ifCond .ne 6, 3), (26, .bipush (-2), 2), (28, .ireturn, 1), (29, .aload_n 0, 1), (30, .getfield 256, 3), (33, .bipush 8, 2), (35, .if_icmp .ne 6, 3), (38, .bipush (-4), 2), (40, .ireturn, 1), (41, .aload_n 0, 1), (42, .getfield 67, 3), (45, .iconst 3, 1), (46, .aload_n 0, 1), (47, .getfield 256, 3), (50, .imul, 1), (51, .iload_n 1, 1), (52, .iastore, 1), (53, .aload_n 0, 1), (54, .getfield 67, 3), (57, .iconst 3, 1), (58, .aload_n 0, 1), (59, .getfield 256, 3), (62, .imul, 1), (63, .iconst 1, 1), (64, .iadd, 1), (65, .iload_n 2, 1), (66, .iastore, 1), (67, .aload_n 0, 1), (68, .getfield 67, 3), (71, .iconst 3, 1), (72, .aload_n 0, 1), (73, .getfield 256, 3), (76, .imul, 1), (77, .iconst 2, 1), (78, .iadd, 1), (79, .iload_n 3, 1), (80, .iastore, 1), (81, .aload_n 0, 1), (82, .dup, 1), (83, .getfield 256, 3), (86, .iconst 1, 1), (87, .iadd, 1), (88, .putfield 256, 3), (91, .aload_n 0, 1), (92, .getfield 256, 3), (95, .ireturn, 1)]
theorem kX9_seen : dchk cX9_seen pX9_seen = true := by decide +kernel
def pX9_forget : List (Nat × Instr × Nat) := [(0, .aload_n 0, 1), (1, .getfield 256, 3), (4, .istore_n 1, 1), (5, .aload_n 0, 1), (6, .iconst 0, 1), (7, .putfield 256, 3), (10, .iload_n 1, 1), (11, .ireturn, 1)]
theorem kX9_forget : dchk cX9_forget pX9_forget = true := by decide +kernel
def pX9_isSeen : List (Nat × Instr × Nat) := [(0, .aload_n 0, 1), (1, .invokevirtual 203, 3), (4, .iconst 1, 1), (5, .istore_n 1, 1), (6, .iconst 0, 1), (7, .istore_n 2, 1), (8, .iload_n 2, 1), (9, .aload_n 0, 1), (10, .getfield 256, 3), (13, .if_icmp .ge 87, 3), (16, .aload_n 0, 1), (17, .getfield 67, 3), (20, .iconst 3, 1), (21, .iload_n 2, 1), (22, .imul, 1), (23, .iconst 1, 1), (24, .iadd, 1), (25, .iaload, 1), (26, .istore_n 3, 1), (27, .iload_n 1, 1), (28, .ifCond .eq 64, 3), (31, .aload_n 0, 1), (32, .iload_n 3, 1), (33, .invokevirtual 156, 3), (36, .ifCond .eq 56, 3), (39, .aload_n 0, 1), (40, .getfield 61, 3), (43, .bipush 12, 2), (45, .aload_n 0, 1), (46, .getfield 67, 3), (49, .iconst 3, 1), (50, .iload_n 2, 1), (51, .imul, 1), (52, .iaload, 1), (53, .imul, 1), (54, .iload_n 3, 1), (55, .iadd, 1), (56, .iaload, 1), (57, .iconst 2, 1), (58, .if_icmp .ne 7, 3), (61, .iconst 1, 1), (62, .goto 4, 3), (65, .iconst 0, 1), (66, .aload_n 0, 1), (67, .getfield 67, 3), (70, .iconst 3, 1), (71, .iload_n 2, 1), (72, .imul, 1), (73, .iconst 2, 1), (74, .iadd, 1), (75, .iaload, 1), (76, .iconst 1, 1), (77, .if_icmp .ne 7, 3), (80, .iconst 1, 1), (81, .goto 4, 3), (84, .iconst 0, 1), (85, .if_icmp .ne 7, 3), (88, .iconst 1, 1), (89, .goto 4, 3), (92, .iconst 0, 1), (93, .istore_n 1, 1), (94, .iinc 2 1, 3), (97, .goto (-89), 3), (100, .iload_n 1, 1), (101, .ireturn, 1)]
theorem kX9_isSeen : dchk cX9_isSeen pX9_isSeen = true := by decide +kernel
def pX9_neverNow : List (Nat × Instr × Nat) := [(0, .iconst 0, 1), (1, .istore_n 1, 1), (2, .iconst 0, 1), (3, .istore_n 2, 1), (4, .iload_n 2, 1), (5, .aload_n 0, 1), (6, .getfield 172, 3), (9, .if_icmp .ge 33, 3), (12, .aload_n 0, 1), (13, .iconst 1, 1), (14, .iload_n 2, 1), (15, .ishl, 1), (16, .putfield 177, 3), (19, .iload_n 1, 1), (20, .aload_n 0, 1), (21, .invokevirtual 259, 3), (24, .ifCond .eq 9, 3), (27, .iconst 1, 1), (28, .iload_n 2, 1), (29, .ishl, 1), (30, .goto 4, 3), (33, .iconst 0, 1), (34, .ior, 1), (35, .istore_n 1, 1), (36, .iinc 2 1, 3), (39, .goto (-35), 3), (42, .aload_n 0, 1), (43, .iconst 0, 1), (44, .putfield 177, 3), (47, .iload_n 1, 1), (48, .ireturn, 1)]
theorem kX9_neverNow : dchk cX9_neverNow pX9_neverNow = true := by decide +kernel
def pX9_pullsNow : List (Nat × Instr × Nat) := [(0, .aload_n 0, 1), (1, .getfield 37, 3), (4, .iconst 0, 1), (5, .iaload, 1), (6, .istore_n 1, 1), (7, .iconst 0, 1), (8, .istore_n 2, 1), (9, .iconst 0, 1), (10, .istore_n 3, 1), (11, .iload_n 3, 1), (12, .iconst 5, 1), (13, .if_icmp .ge 67, 3), (16, .aload_n 0, 1), (17, .getfield 37, 3), (20, .iconst 0, 1), (21, .iload_n 3, 1), (22, .iastore, 1), (23, .iload_n 2, 1), (24, .aload_n 0, 1), (25, .invokevirtual 259, 3), (28, .ifCond .eq 9, 3), (31, .iconst 1, 1), (32, .iload_n 3, 1), (33, .ishl, 1), (34, .goto 4, 3), (37, .iconst 0, 1), (38, .ior, 1), (39, .istore_n 2, 1), (40, .iconst 0, 1), (41, .istore 4, 2), (43, .iload 4, 2), (45, .bipush 24, 2), (47, .if_icmp .ge 27, 3), (50, .aload_n 0, 1), (51, .getfield 70, 3), (54, .bipush 24, 2), (56, .iload_n 3, 1), (57, .imul, 1), (58, .iload 4, 2), (60, .iadd, 1), (61, .aload_n 0, 1), (62, .iload 4, 2), (64, .invokevirtual 263, 3), (67, .iastore, 1), (68, .iinc 4 1, 3), (71, .goto (-28), 3), (74, .iinc 3 1, 3), (77, .goto (-66), 3), (80, .aload_n 0, 1), (81, .getfield 37, 3), (84, .iconst 0, 1), (85, .iload_n 1, 1), (86, .iastore, 1), (87, .iload_n 2, 1), (88, .ireturn, 1)]
theorem kX9_pullsNow : dchk cX9_pullsNow pX9_pullsNow = true := by decide +kernel
def pX9_mightBy : List (Nat × Instr × Nat) := [(0, .iload_n 1, 1), (1, .ifCond .ne 10, 3), (4, .aload_n 0, 1), (5, .invokevirtual 266, 3), (8, .goto 7, 3), (11, .aload_n 0, 1), (12, .invokevirtual 269, 3), (15, .ireturn, 1)]
theorem kX9_mightBy : dchk cX9_mightBy pX9_mightBy = true := by decide +kernel
def pX9_might : List (Nat × Instr × Nat) := [(0, .aload_n 0, 1), (1, .invokevirtual 206, 3), (4, .iload_n 1, 1), (5, .invokestatic 162, 3), (8, .ifCond .eq 11, 3), (11, .aload_n 0, 1), (12, .iload_n 1, 1), (13, .invokevirtual 272, 3), (16, .goto 5, 3), (19, .bipush (-2), 2), (21, .ireturn, 1)]
theorem kX9_might : dchk cX9_might pX9_might = true := by decide +kernel
def pX9_kindOf : List (Nat × Instr × Nat) := [(0, .iconst 4, 1), (1, .iload_n 1, 1), (2, .imul, 1), (3, .iconst 2, 1), (4, .iadd, 1), (5, .istore_n 2, 1), (6, .aload_n 0, 1), (7, .getfield 31, 3), (10, .iload_n 2, 1), (11, .iaload, 1), (12, .istore_n 3, 1), (13, .iconst 0, 1), (14, .istore 4, 2), (16, .iconst 0, 1), (17, .istore 5, 2), (19, .iload 5, 2), (21, .iconst 3, 1), (22, .if_icmp .ge 37, 3), (25, .aload_n 0, 1), (26, .getfield 31, 3), (29, .iload_n 2, 1), (30, .iload 5, 2), (32, .iastore, 1), (33, .iload 4, 2), (35, .aload_n 0, 1), (36, .invokevirtual 259, 3), (39, .ifCond .eq 10, 3), (42, .iconst 1, 1), (43, .iload 5, 2), (45, .ishl, 1), (46, .goto 4, 3), (49, .iconst 0, 1), (50, .ior, 1), (51, .istore 4, 2), (53, .iinc 5 1, 3), (56, .goto (-37), 3), (59, .aload_n 0, 1), (60, .getfield 31, 3), (63, .iload_n 2, 1), (64, .iload_n 3, 1), (65, .iastore, 1), (66, .iload 4, 2), (68, .ireturn, 1)]
theorem kX9_kindOf : dchk cX9_kindOf pX9_kindOf = true := by decide +kernel
def pX9_kind : List (Nat × Instr × Nat) := [(0, .aload_n 0, 1), (1, .invokevirtual 206, 3), (4, .aload_n 0, 1), (5, .iload_n 1, 1), (6, .invokevirtual 156, 3), (9, .ifCond .eq 11, 3), (12, .aload_n 0, 1), (13, .iload_n 1, 1), (14, .invokevirtual 275, 3), (17, .goto 5, 3), (20, .bipush (-2), 2), (22, .ireturn, 1)]
theorem kX9_kind : dchk cX9_kind pX9_kind = true := by decide +kernel
def pX9_alike : List (Nat × Instr × Nat) := [(0, .iconst 0, 1), (1, .istore_n 3, 1), (2, .iconst 0, 1), (3, .istore 4, 2), (5, .iload 4, 2), (7, .iconst 5, 1), (8, .if_icmp .ge 89, 3), (11, .iconst 0, 1), (12, .istore 5, 2), (14, .iconst 0, 1), (15, .istore 6, 2), (17, .iload 6, 2), (19, .iconst 5, 1), (20, .if_icmp .ge 64, 3), (23, .iload 5, 2), (25, .iload_n 1, 1), (26, .iload 4, 2), (28, .invokestatic 180, 3), (31, .ifCond .eq 43, 3), (34, .iload_n 1, 1), (35, .iload 6, 2), (37, .invokestatic 180, 3), (40, .ifCond .eq 34, 3), (43, .aload_n 0, 1), (44, .getfield 70, 3), (47, .bipush 24, 2), (49, .iload 4, 2), (51, .imul, 1), (52, .iload_n 2, 1), (53, .iadd, 1), (54, .iaload, 1), (55, .aload_n 0, 1), (56, .getfield 70, 3), (59, .bipush 24, 2), (61, .iload 6, 2), (63, .imul, 1), (64, .iload_n 2, 1), (65, .iadd, 1), (66, .iaload, 1), (67, .if_icmp .ne 7, 3), (70, .iconst 1, 1), (71, .goto 4, 3), (74, .iconst 0, 1), (75, .iadd, 1), (76, .istore 5, 2), (78, .iinc 6 1, 3), (81, .goto (-64), 3), (84, .iload 5, 2), (86, .iload_n 3, 1), (87, .invokestatic 230, 3), (90, .istore_n 3, 1), (91, .iinc 4 1, 3), (94, .goto (-89), 3), (97, .iload_n 3, 1), (98, .ireturn, 1)]
theorem kX9_alike : dchk cX9_alike pX9_alike = true := by decide +kernel
def pX9_askNow : List (Nat × Instr × Nat) := [(0, .aload_n 0, 1), (1, .invokevirtual 269, 3), (4, .istore_n 1, 1), (5, .iconst 0, 1), (6, .istore_n 2, 1), (7, .iconst 1, 1), (8, .istore_n 3, 1), (9, .iload_n 3, 1), (10, .bipush 24, 2), (12, .if_icmp .ge 30, 3), (15, .aload_n 0, 1), (16, .iload_n 1, 1), (17, .iload_n 3, 1), (18, .invokevirtual 278, 3), (21, .aload_n 0, 1), (22, .iload_n 1, 1), (23, .iload_n 2, 1), (24, .invokevirtual 278, 3), (27, .if_icmp .ge 7, 3), (30, .iload_n 3, 1), (31, .goto 4, 3), (34, .iload_n 2, 1), (35, .istore_n 2, 1), (36, .iinc 3 1, 3), (39, .goto (-30), 3), (42, .iload_n 2, 1), (43, .ireturn, 1)]
theorem kX9_askNow : dchk cX9_askNow pX9_askNow = true := by decide +kernel
def pX9_ask : List (Nat × Instr × Nat) := [(0, .aload_n 0, 1), (1, .invokevirtual 206, 3), (4, .aload_n 0, 1), (5, .invokevirtual 281, 3), (8, .ireturn, 1)]
theorem kX9_ask : dchk cX9_ask pX9_ask = true := by decide +kernel
def pX9_chanceOf : List (Nat × Instr × Nat) := [(0, .lconst 0, 1), (1, .lstore 4, 2), (3, .iconst 0, 1), (4, .istore 6, 2), (6, .iload 6, 2), (8, .iconst 1, 1), (9, .aload_n 0, 1), (10, .getfield 172, 3), (13, .ishl, 1), (14, .if_icmp .ge 86, 3), (17, .aload_n 0, 1), (18, .iload 6, 2), (20, .putfield 177, 3), (23, .aload_n 0, 1), (24, .invokevirtual 203, 3), (27, .aload_n 0, 1), (28, .getfield 52, 3), (31, .iload_n 2, 1), (32, .iaload, 1), (33, .iconst (-1), 1), (34, .if_icmp .eq 7, 3), (37, .lconst 1, 1), (38, .goto 4, 3), (41, .lconst 0, 1), (42, .lstore 7, 2), (44, .iconst 0, 1), (45, .istore 9, 2), (47, .iload 9, 2), (49, .aload_n 0, 1), (50, .getfield 172, 3), (53, .if_icmp .ge 34, 3), (56, .lload 7, 2), (58, .iload 6, 2), (60, .iload 9, 2), (62, .invokestatic 180, 3), (65, .ifCond .eq 11, 3), (68, .bipush 16, 2), (70, .iload_n 1, 1), (71, .isub, 1), (72, .i2l, 1), (73, .goto 5, 3), (76, .iload_n 1, 1), (77, .i2l, 1), (78, .lmul, 1), (79, .lstore 7, 2), (81, .iinc 9 1, 3), (84, .goto (-37), 3), (87, .lload 4, 2), (89, .lload 7, 2), (91, .ladd, 1), (92, .lstore 4, 2), (94, .iinc 6 1, 3), (97, .goto (-91), 3), (100, .aload_n 0, 1), (101, .iconst 0, 1), (102, .putfield 177, 3), (105, .lload 4, 2), (107, .lconst 1, 1), (108, .iconst 4, 1), (109, .aload_n 0, 1), (110, .getfield 172, 3), (113, .imul, 1), (114, .lshl, 1), (115, .iload_n 3, 1), (116, .invokestatic 284, 3), (119, .lreturn, 1)]
theorem kX9_chanceOf : dchk cX9_chanceOf pX9_chanceOf = true := by decide +kernel
def pX9_chance : List (Nat × Instr × Nat) := [(0, .aload_n 0, 1), (1, .invokevirtual 206, 3), (4, .iload_n 1, 1), (5, .i2l, 1), (6, .lconst 0, 1), (7, .ldc2_w 288, 3), (10, .invokestatic 75, 3), (13, .ifCond .eq 28, 3), (16, .aload_n 0, 1), (17, .iload_n 2, 1), (18, .invokevirtual 159, 3), (21, .ifCond .eq 20, 3), (24, .iload_n 3, 1), (25, .invokestatic 162, 3), (28, .ifCond .eq 13, 3), (31, .aload_n 0, 1), (32, .iload_n 1, 1), (33, .iload_n 2, 1), (34, .iload_n 3, 1), (35, .invokevirtual 290, 3), (38, .goto 8, 3), (41, .bipush (-2), 2), (43, .invokestatic 294, 3), (46, .lreturn, 1)]
theorem kX9_chance : dchk cX9_chance pX9_chance = true := by decide +kernel
def pX9_lot : List (Nat × Instr × Nat) := [(0, .aload_n 0, 1), (1, .ldc_w 298, 3), (4, .aload_n 0, 1), (5, .getfield 299, 3), (8, .imul, 1), (9, .sipush 12345, 3), (12, .iadd, 1), (13, .putfield 299, 3), (16, .aload_n 0, 1), (17, .getfield 299, 3), (20, .bipush 16, 2), (22, .iushr, 1), (23, .iload_n 1, 1), (24, .irem, 1), (25, .ireturn, 1)]
theorem kX9_lot : dchk cX9_lot pX9_lot = true := by decide +kernel
def pX9_fairsOf : List (Nat × Instr × Nat) := [(0, .aload_n 0, 1), (1, .iload_n 1, 1), (2, .putfield 299, 3), (5, .aload_n 0, 1), (6, .iload_n 2, 1), (7, .putfield 132, 3), (10, .iconst 0, 1), (11, .istore 4, 2), (13, .iload 4, 2), (15, .iload_n 2, 1), (16, .if_icmp .ge 57, 3), (19, .aload_n 0, 1), (20, .getfield 34, 3), (23, .iconst 3, 1), (24, .iload 4, 2), (26, .imul, 1), (27, .aload_n 0, 1), (28, .bipush 24, 2), (30, .invokevirtual 302, 3), (33, .iastore, 1), (34, .aload_n 0, 1), (35, .getfield 34, 3), (38, .iconst 3, 1), (39, .iload 4, 2), (41, .imul, 1), (42, .iconst 1, 1), (43, .iadd, 1), (44, .aload_n 0, 1), (45, .iconst 3, 1), (46, .invokevirtual 302, 3), (49, .iastore, 1), (50, .aload_n 0, 1), (51, .getfield 34, 3), (54, .iconst 3, 1), (55, .iload 4, 2), (57, .imul, 1), (58, .iconst 2, 1), (59, .iadd, 1), (60, .aload_n 0, 1), (61, .bipush 6, 2), (63, .invokevirtual 302, 3), (66, .iastore, 1), (67, .iinc 4 1, 3), (70, .goto (-57), 3), (73, .aload_n 0, 1), (74, .invokevirtual 203, 3), (77, .aload_n 0, 1), (78, .iload_n 3, 1), (79, .invokevirtual 227, 3), (82, .istore 4, 2), (84, .aload_n 0, 1), (85, .invokevirtual 145, 3), (88, .pop, 1), (89, .iload 4, 2), (91, .ireturn, 1)]
theorem kX9_fairsOf : dchk cX9_fairsOf pX9_fairsOf = true := by decide +kernel
def pX9_fairs : List (Nat × Instr × Nat) := [(0, .aload_n 0, 1), (1, .invokevirtual 206, 3), (4, .iload_n 2, 1), (5, .i2l, 1), (6, .lconst 0, 1), (7, .ldc2_w 305, 3), (10, .invokestatic 75, 3), (13, .ifCond .eq 20, 3), (16, .iload_n 3, 1), (17, .invokestatic 162, 3), (20, .ifCond .eq 13, 3), (23, .aload_n 0, 1), (24, .iload_n 1, 1), (25, .iload_n 2, 1), (26, .iload_n 3, 1), (27, .invokevirtual 307, 3), (30, .goto 5, 3), (33, .bipush (-2), 2), (35, .ireturn, 1)]
theorem kX9_fairs : dchk cX9_fairs pX9_fairs = true := by decide +kernel
def pX9_write : List (Nat × Instr × Nat) := [(0, .aload_n 0, 1), (1, .invokevirtual 206, 3), (4, .aload_n 0, 1), (5, .iload_n 1, 1), (6, .invokevirtual 156, 3), (9, .ifCond .eq 10, 3), (12, .iload_n 2, 1), (13, .invokestatic 85, 3), (16, .ifCond .ne 6, 3), (19, .bipush (-2), 2), (21, .ireturn, 1), (22, .aload_n 0, 1), (23, .getfield 7, 3), (26, .iload_n 2, 1), (27, .iaload, 1), (28, .ifCond .ge 9, 3), (31, .aload_n 0, 1), (32, .iconst 1, 1), (33, .invokevirtual 91, 3), (36, .ireturn, 1), (37, .aload_n 0, 1), (38, .getfield 13, 3), (41, .iload_n 2, 1), (42, .iaload, 1), (43, .bipush 24, 2), (45, .invokestatic 310, 3), (48, .istore_n 3, 1), (49, .iconst 0, 1), (50, .istore 4, 2), (52, .iload 4, 2), (54, .iload_n 3, 1), (55, .if_icmp .ge 42, 3), (58, .aload_n 0, 1), (59, .getfield 16, 3), (62, .bipush 60, 2), (64, .iload_n 2, 1), (65, .imul, 1), (66, .iload 4, 2), (68, .iadd, 1), (69, .aload_n 0, 1), (70, .getfield 7, 3), (73, .iload_n 2, 1), (74, .iaload, 1), (75, .aload_n 0, 1), (76, .getfield 61, 3), (79, .bipush 12, 2), (81, .iload 4, 2), (83, .imul, 1), (84, .iload_n 1, 1), (85, .iadd, 1), (86, .iaload, 1), (87, .invokestatic 99, 3), (90, .iastore, 1), (91, .iinc 4 1, 3), (94, .goto (-42), 3), (97, .iload_n 3, 1), (98, .ireturn, 1)]
theorem kX9_write : dchk cX9_write pX9_write = true := by decide +kernel
def pX9_count : List (Nat × Instr × Nat) := [(0, .aload_n 0, 1), (1, .invokevirtual 206, 3), (4, .iload_n 1, 1), (5, .tableswitch 114 0 8 #[51, 56, 61, 82, 87, 92, 97, 104, 109], 51), (56, .aload_n 0, 1), (57, .getfield 123, 3), (60, .ireturn, 1), (61, .aload_n 0, 1), (62, .getfield 132, 3), (65, .ireturn, 1), (66, .aload_n 0, 1), (67, .getfield 25, 3), (70, .iconst 0, 1), (71, .iaload, 1), (72, .aload_n 0, 1), (73, .getfield 25, 3), (76, .iconst 1, 1), (77, .iaload, 1), (78, .iadd, 1), (79, .aload_n 0, 1), (80, .getfield 25, 3), (83, .iconst 2, 1), (84, .iaload, 1), (85, .iadd, 1), (86, .ireturn, 1), (87, .aload_n 0, 1), (88, .getfield 172, 3), (91, .ireturn, 1), (92, .aload_n 0, 1), (93, .invokevirtual 221, 3), (96, .ireturn, 1), (97, .aload_n 0, 1), (98, .invokevirtual 224, 3), (101, .ireturn, 1), (102, .aload_n 0, 1), (103, .bipush 23, 2), (105, .invokevirtual 215, 3), (108, .ireturn, 1), (109, .aload_n 0, 1), (110, .getfield 256, 3), (113, .ireturn, 1), (114, .aload_n 0, 1), (115, .getfield 79, 3), (118, .ireturn, 1), (119, .bipush (-2), 2), (121, .ireturn, 1)]
theorem kX9_count : dchk cX9_count pX9_count = true := by decide +kernel
def pX9_tellsTick : List (Nat × Instr × Nat) := [(0, .lload_n 1, 1), (1, .lstore 5, 2), (3, .iconst 0, 1), (4, .istore 7, 2), (6, .iload 7, 2), (8, .iconst 3, 1), (9, .if_icmp .ge 28, 3), (12, .ldc2_w 313, 3), (15, .lload 5, 2), (17, .lmul, 1), (18, .aload_n 0, 1), (19, .iload_n 3, 1), (20, .iload 4, 2), (22, .iload 7, 2), (24, .invokevirtual 209, 3), (27, .i2l, 1), (28, .ladd, 1), (29, .lstore 5, 2), (31, .iinc 7 1, 3), (34, .goto (-28), 3), (37, .lload 5, 2), (39, .lreturn, 1)]
theorem kX9_tellsTick : dchk cX9_tellsTick pX9_tellsTick = true := by decide +kernel
def pX9_tellsDuck : List (Nat × Instr × Nat) := [(0, .aload_n 0, 1), (1, .invokevirtual 203, 3), (4, .lload_n 1, 1), (5, .lstore 4, 2), (7, .iconst 0, 1), (8, .istore 6, 2), (10, .iload 6, 2), (12, .iconst 4, 1), (13, .if_icmp .ge 30, 3), (16, .ldc2_w 313, 3), (19, .lload 4, 2), (21, .lmul, 1), (22, .aload_n 0, 1), (23, .getfield 31, 3), (26, .iconst 4, 1), (27, .iload_n 3, 1), (28, .imul, 1), (29, .iload 6, 2), (31, .iadd, 1), (32, .iaload, 1), (33, .i2l, 1), (34, .ladd, 1), (35, .lstore 4, 2), (37, .iinc 6 1, 3), (40, .goto (-30), 3), (43, .aload_n 0, 1), (44, .aload_n 0, 1), (45, .aload_n 0, 1), (46, .aload_n 0, 1), (47, .lload 4, 2), (49, .iconst 0, 1), (50, .iload_n 3, 1), (51, .invokevirtual 315, 3), (54, .bipush 6, 2), (56, .iload_n 3, 1), (57, .invokevirtual 315, 3), (60, .bipush 13, 2), (62, .iload_n 3, 1), (63, .invokevirtual 315, 3), (66, .bipush 23, 2), (68, .iload_n 3, 1), (69, .invokevirtual 315, 3), (72, .lstore 4, 2), (74, .ldc2_w 313, 3), (77, .lload 4, 2), (79, .lmul, 1), (80, .aload_n 0, 1), (81, .iload_n 3, 1), (82, .invokevirtual 275, 3), (85, .i2l, 1), (86, .ladd, 1), (87, .lreturn, 1)]
theorem kX9_tellsDuck : dchk cX9_tellsDuck pX9_tellsDuck = true := by decide +kernel
def pX9_tellsShot : List (Nat × Instr × Nat) := [(0, .aload_n 0, 1), (1, .invokevirtual 203, 3), (4, .lload_n 1, 1), (5, .lstore 4, 2), (7, .iconst 0, 1), (8, .istore 6, 2), (10, .iload 6, 2), (12, .iconst 3, 1), (13, .if_icmp .ge 30, 3), (16, .ldc2_w 313, 3), (19, .lload 4, 2), (21, .lmul, 1), (22, .aload_n 0, 1), (23, .getfield 34, 3), (26, .iconst 3, 1), (27, .iload_n 3, 1), (28, .imul, 1), (29, .iload 6, 2), (31, .iadd, 1), (32, .iaload, 1), (33, .i2l, 1), (34, .ladd, 1), (35, .lstore 4, 2), (37, .iinc 6 1, 3), (40, .goto (-30), 3), (43, .iconst 0, 1), (44, .istore 6, 2), (46, .iload 6, 2), (48, .iconst 3, 1), (49, .if_icmp .ge 26, 3), (52, .ldc2_w 313, 3), (55, .lload 4, 2), (57, .lmul, 1), (58, .aload_n 0, 1), (59, .iload_n 3, 1), (60, .iload 6, 2), (62, .invokevirtual 218, 3), (65, .i2l, 1), (66, .ladd, 1), (67, .lstore 4, 2), (69, .iinc 6 1, 3), (72, .goto (-26), 3), (75, .ldc2_w 313, 3), (78, .lload 4, 2), (80, .lmul, 1), (81, .aload_n 0, 1), (82, .iconst 3, 1), (83, .iload_n 3, 1), (84, .imul, 1), (85, .iconst 2, 1), (86, .iadd, 1), (87, .bipush 6, 2), (89, .iconst 0, 1), (90, .invokevirtual 242, 3), (93, .i2l, 1), (94, .ladd, 1), (95, .lstore 4, 2), (97, .ldc2_w 313, 3), (100, .lload 4, 2), (102, .lmul, 1), (103, .aload_n 0, 1), (104, .iconst 3, 1), (105, .iload_n 3, 1), (106, .imul, 1), (107, .iconst 2, 1), (108, .iadd, 1), (109, .bipush 6, 2), (111, .iconst 1, 1), (112, .invokevirtual 242, 3), (115, .i2l, 1), (116, .ladd, 1), (117, .lstore 4, 2), (119, .ldc2_w 313, 3), (122, .lload 4, 2), (124, .lmul, 1), (125, .aload_n 0, 1), (126, .iconst 3, 1), (127, .iload_n 3, 1), (128, .imul, 1), (129, .bipush 24, 2), (131, .iconst 0, 1), (132, .invokevirtual 242, 3), (135, .i2l, 1), (136, .ladd, 1), (137, .lstore 4, 2), (139, .ldc2_w 313, 3), (142, .lload 4, 2), (144, .lmul, 1), (145, .aload_n 0, 1), (146, .iconst 3, 1), (147, .iload_n 3, 1), (148, .imul, 1), (149, .bipush 24, 2), (151, .iconst 1, 1), (152, .invokevirtual 242, 3), (155, .i2l, 1), (156, .ladd, 1), (157, .lstore 4, 2), (159, .ldc2_w 313, 3), (162, .lload 4, 2), (164, .lmul, 1), (165, .aload_n 0, 1), (166, .iconst 5, 1), (167, .iload_n 3, 1), (168, .iconst 0, 1), (169, .invokevirtual 290, 3), (172, .ladd, 1), (173, .lstore 4, 2), (175, .ldc2_w 313, 3), (178, .lload 4, 2), (180, .lmul, 1), (181, .aload_n 0, 1), (182, .iconst 5, 1), (183, .iload_n 3, 1), (184, .iconst 1, 1), (185, .invokevirtual 290, 3), (188, .ladd, 1), (189, .lreturn, 1)]
theorem kX9_tellsShot : dchk cX9_tellsShot pX9_tellsShot = true := by decide +kernel
def pX9_digest : List (Nat × Instr × Nat) := [(0, .ldc2_w 319, 3), (3, .lstore_n 1, 1), (4, .iconst 0, 1), (5, .istore_n 3, 1), (6, .iload_n 3, 1), (7, .bipush 8, 2), (9, .if_icmp .ge 22, 3), (12, .ldc2_w 313, 3), (15, .lload_n 1, 1), (16, .lmul, 1), (17, .aload_n 0, 1), (18, .iload_n 3, 1), (19, .invokevirtual 321, 3), (22, .i2l, 1), (23, .ladd, 1), (24, .lstore_n 1, 1), (25, .iinc 3 1, 3), (28, .goto (-22), 3), (31, .iconst 0, 1), (32, .istore_n 3, 1), (33, .iload_n 3, 1), (34, .iconst 3, 1), (35, .if_icmp .ge 22, 3), (38, .ldc2_w 313, 3), (41, .lload_n 1, 1), (42, .lmul, 1), (43, .aload_n 0, 1), (44, .iload_n 3, 1), (45, .invokevirtual 148, 3), (48, .i2l, 1), (49, .ladd, 1), (50, .lstore_n 1, 1), (51, .iinc 3 1, 3), (54, .goto (-21), 3), (57, .aload_n 0, 1), (58, .invokevirtual 203, 3), (61, .iconst 0, 1), (62, .istore_n 3, 1), (63, .iload_n 3, 1), (64, .iconst 3, 1), (65, .if_icmp .ge 56, 3), (68, .ldc2_w 313, 3), (71, .lload_n 1, 1), (72, .lmul, 1), (73, .aload_n 0, 1), (74, .getfield 28, 3), (77, .iload_n 3, 1), (78, .iaload, 1), (79, .i2l, 1), (80, .ladd, 1), (81, .lstore_n 1, 1), (82, .iconst 0, 1), (83, .istore 4, 2), (85, .iload 4, 2), (87, .bipush 12, 2), (89, .if_icmp .ge 26, 3), (92, .ldc2_w 313, 3), (95, .lload_n 1, 1), (96, .lmul, 1), (97, .aload_n 0, 1), (98, .bipush 10, 2), (100, .iload_n 3, 1), (101, .iload 4, 2), (103, .invokevirtual 212, 3), (106, .i2l, 1), (107, .ladd, 1), (108, .lstore_n 1, 1), (109, .iinc 4 1, 3), (112, .goto (-27), 3), (115, .iinc 3 1, 3), (118, .goto (-55), 3), (121, .iconst 0, 1), (122, .istore_n 3, 1), (123, .iload_n 3, 1), (124, .bipush 24, 2), (126, .if_icmp .ge 22, 3), (129, .ldc2_w 313, 3), (132, .lload_n 1, 1), (133, .lmul, 1), (134, .aload_n 0, 1), (135, .iload_n 3, 1), (136, .invokevirtual 215, 3), (139, .i2l, 1), (140, .ladd, 1), (141, .lstore_n 1, 1), (142, .iinc 3 1, 3), (145, .goto (-22), 3), (148, .iconst 0, 1), (149, .istore_n 3, 1), (150, .iload_n 3, 1), (151, .aload_n 0, 1), (152, .getfield 123, 3), (155, .if_icmp .ge 16, 3), (158, .aload_n 0, 1), (159, .lload_n 1, 1), (160, .iload_n 3, 1), (161, .invokevirtual 324, 3), (164, .lstore_n 1, 1), (165, .iinc 3 1, 3), (168, .goto (-18), 3), (171, .iconst 0, 1), (172, .istore_n 3, 1), (173, .iload_n 3, 1), (174, .aload_n 0, 1), (175, .getfield 132, 3), (178, .if_icmp .ge 16, 3), (181, .aload_n 0, 1), (182, .lload_n 1, 1), (183, .iload_n 3, 1), (184, .invokevirtual 328, 3), (187, .lstore_n 1, 1), (188, .iinc 3 1, 3), (191, .goto (-18), 3), (194, .aload_n 0, 1), (195, .invokevirtual 203, 3), (198, .iconst 0, 1), (199, .istore_n 3, 1), (200, .iload_n 3, 1), (201, .iconst 3, 1), (202, .if_icmp .ge 22, 3), (205, .ldc2_w 313, 3), (208, .lload_n 1, 1), (209, .lmul, 1), (210, .aload_n 0, 1), (211, .iload_n 3, 1), (212, .invokevirtual 227, 3), (215, .i2l, 1), (216, .ladd, 1), (217, .lstore_n 1, 1), (218, .iinc 3 1, 3), (221, .goto (-21), 3), (224, .ldc2_w 313, 3), (227, .lload_n 1, 1), (228, .lmul, 1), (229, .aload_n 0, 1), (230, .iconst 0, 1), (231, .invokevirtual 233, 3), (234, .i2l, 1), (235, .ladd, 1), (236, .lstore_n 1, 1), (237, .ldc2_w 313, 3), (240, .lload_n 1, 1), (241, .lmul, 1), (242, .aload_n 0, 1), (243, .iconst 1, 1), (244, .invokevirtual 233, 3), (247, .i2l, 1), (248, .ladd, 1), (249, .lstore_n 1, 1), (250, .ldc2_w 313, 3), (253, .lload_n 1, 1), (254, .lmul, 1), (255, .aload_n 0, 1), (256, .invokevirtual 236, 3), (259, .i2l, 1), (260, .ladd, 1), (261, .lstore_n 1, 1), (262, .ldc2_w 313, 3), (265, .lload_n 1, 1), (266, .lmul, 1), (267, .aload_n 0, 1), (268, .invokevirtual 239, 3), (271, .i2l, 1), (272, .ladd, 1), (273, .lstore_n 1, 1), (274, .ldc2_w 313, 3), (277, .lload_n 1, 1), (278, .lmul, 1), (279, .aload_n 0, 1), (280, .iconst 0, 1), (281, .invokevirtual 245, 3), (284, .i2l, 1), (285, .ladd, 1), (286, .lstore_n 1, 1), (287, .ldc2_w 313, 3), (290, .lload_n 1, 1), (291, .lmul, 1), (292, .aload_n 0, 1), (293, .iconst 1, 1), (294, .invokevirtual 245, 3), (297, .i2l, 1), (298, .ladd, 1), (299, .lstore_n 1, 1), (300, .ldc2_w 313, 3), (303, .lload_n 1, 1), (304, .lmul, 1), (305, .aload_n 0, 1), (306, .iconst (-1), 1), (307, .invokevirtual 253, 3), (310, .i2l, 1), (311, .ladd, 1), (312, .lstore_n 1, 1), (313, .ldc2_w 313, 3), (316, .lload_n 1, 1), (317, .lmul, 1), (318, .aload_n 0, 1), (319, .iconst 0, 1), (320, .invokevirtual 253, 3), (323, .i2l, 1), (324, .ladd, 1), (325, .lstore_n 1, 1), (326, .ldc2_w 313, 3), (329, .lload_n 1, 1), (330, .lmul, 1), (331, .aload_n 0, 1), (332, .invokevirtual 266, 3), (335, .i2l, 1), (336, .ladd, 1), (337, .lstore_n 1, 1), (338, .ldc2_w 313, 3), (341, .lload_n 1, 1), (342, .lmul, 1), (343, .aload_n 0, 1), (344, .invokevirtual 269, 3), (347, .i2l, 1), (348, .ladd, 1), (349, .lstore_n 1, 1), (350, .ldc2_w 313, 3), (353, .lload_n 1, 1), (354, .lmul, 1), (355, .aload_n 0, 1), (356, .invokevirtual 281, 3), (359, .i2l, 1), (360, .ladd, 1), (361, .lstore_n 1, 1), (362, .ldc2_w 313, 3), (365, .lload_n 1, 1), (366, .lmul, 1), (367, .aload_n 0, 1), (368, .bipush 7, 2), (370, .bipush 9, 2), (372, .iconst 0, 1), (373, .invokevirtual 307, 3), (376, .i2l, 1), (377, .ladd, 1), (378, .lstore_n 1, 1), (379, .ldc2_w 313, 3), (382, .lload_n 1, 1), (383, .lmul, 1), (384, .aload_n 0, 1), (385, .bipush 7, 2), (387, .bipush 9, 2), (389, .iconst 1, 1), (390, .invokevirtual 307, 3), (393, .i2l, 1), (394, .ladd, 1), (395, .lreturn, 1)]
theorem kX9_digest : dchk cX9_digest pX9_digest = true := by decide +kernel
def pJ6_numberOfTrailingZeros_0f7a4 : List (Nat × Instr × Nat) := [(0, .iload_n 0, 1), (1, .iconst (-1), 1), (2, .ixor, 1), (3, .iload_n 0, 1), (4, .iconst 1, 1), (5, .isub, 1), (6, .iand, 1), (7, .istore_n 0, 1), (8, .iload_n 0, 1), (9, .ifCond .gt 8, 3), (12, .iload_n 0, 1), (13, .bipush 32, 2), (15, .iand, 1), (16, .ireturn, 1), (17, .iconst 1, 1), (18, .istore_n 1, 1), (19, .iload_n 0, 1), (20, .ldc_w 264, 3), (23, .if_icmp .le 11, 3), (26, .iinc 1 16, 3), (29, .iload_n 0, 1), (30, .bipush 16, 2), (32, .iushr, 1), (33, .istore_n 0, 1), (34, .iload_n 0, 1), (35, .sipush 256, 3), (38, .if_icmp .le 11, 3), (41, .iinc 1 8, 3), (44, .iload_n 0, 1), (45, .bipush 8, 2), (47, .iushr, 1), (48, .istore_n 0, 1), (49, .iload_n 0, 1), (50, .bipush 16, 2), (52, .if_icmp .le 10, 3), (55, .iinc 1 4, 3), (58, .iload_n 0, 1), (59, .iconst 4, 1), (60, .iushr, 1), (61, .istore_n 0, 1), (62, .iload_n 0, 1), (63, .iconst 4, 1), (64, .if_icmp .le 10, 3), (67, .iinc 1 2, 3), (70, .iload_n 0, 1), (71, .iconst 2, 1), (72, .iushr, 1), (73, .istore_n 0, 1), (74, .iload_n 1, 1), (75, .iload_n 0, 1), (76, .iconst 1, 1), (77, .iushr, 1), (78, .iadd, 1), (79, .ireturn, 1)]
theorem kJ6_numberOfTrailingZeros_0f7a4 : dchk cJ6_numberOfTrailingZeros_0f7a4 pJ6_numberOfTrailingZeros_0f7a4 = true := by decide +kernel
def pJ6_bitCount_0f7a4 : List (Nat × Instr × Nat) := [(0, .iload_n 0, 1), (1, .iload_n 0, 1), (2, .iconst 1, 1), (3, .iushr, 1), (4, .ldc_w 265, 3), (7, .iand, 1), (8, .isub, 1), (9, .istore_n 0, 1), (10, .iload_n 0, 1), (11, .ldc_w 266, 3), (14, .iand, 1), (15, .iload_n 0, 1), (16, .iconst 2, 1), (17, .iushr, 1), (18, .ldc_w 266, 3), (21, .iand, 1), (22, .iadd, 1), (23, .istore_n 0, 1), (24, .iload_n 0, 1), (25, .iload_n 0, 1), (26, .iconst 4, 1), (27, .iushr, 1), (28, .iadd, 1), (29, .ldc_w 267, 3), (32, .iand, 1), (33, .istore_n 0, 1), (34, .iload_n 0, 1), (35, .iload_n 0, 1), (36, .bipush 8, 2), (38, .iushr, 1), (39, .iadd, 1), (40, .istore_n 0, 1), (41, .iload_n 0, 1), (42, .iload_n 0, 1), (43, .bipush 16, 2), (45, .iushr, 1), (46, .iadd, 1), (47, .istore_n 0, 1), (48, .iload_n 0, 1), (49, .bipush 63, 2), (51, .iand, 1), (52, .ireturn, 1)]
theorem kJ6_bitCount_0f7a4 : dchk cJ6_bitCount_0f7a4 pJ6_bitCount_0f7a4 = true := by decide +kernel
def pJ9_floorMod_7cf53 : List (Nat × Instr × Nat) := [(0, .iload_n 0, 1), (1, .iload_n 1, 1), (2, .irem, 1), (3, .istore_n 2, 1), (4, .iload_n 0, 1), (5, .iload_n 1, 1), (6, .ixor, 1), (7, .ifCond .ge 11, 3), (10, .iload_n 2, 1), (11, .ifCond .eq 7, 3), (14, .iload_n 2, 1), (15, .iload_n 1, 1), (16, .iadd, 1), (17, .ireturn, 1), (18, .iload_n 2, 1), (19, .ireturn, 1)]
theorem kJ9_floorMod_7cf53 : dchk cJ9_floorMod_7cf53 pJ9_floorMod_7cf53 = true := by decide +kernel
def pJ9_max_7cf53 : List (Nat × Instr × Nat) := [(0, .iload_n 0, 1), (1, .iload_n 1, 1), (2, .if_icmp .lt 7, 3), (5, .iload_n 0, 1), (6, .goto 4, 3), (9, .iload_n 1, 1), (10, .ireturn, 1)]
theorem kJ9_max_7cf53 : dchk cJ9_max_7cf53 pJ9_max_7cf53 = true := by decide +kernel
def pJ9_max_f86c9 : List (Nat × Instr × Nat) := [(0, .lload_n 0, 1), (1, .lload_n 2, 1), (2, .lcmp, 1), (3, .ifCond .lt 7, 3), (6, .lload_n 0, 1), (7, .goto 4, 3), (10, .lload_n 2, 1), (11, .lreturn, 1)]
theorem kJ9_max_f86c9 : dchk cJ9_max_f86c9 pJ9_max_f86c9 = true := by decide +kernel
def pJ9_min_7cf53 : List (Nat × Instr × Nat) := [(0, .iload_n 0, 1), (1, .iload_n 1, 1), (2, .if_icmp .gt 7, 3), (5, .iload_n 0, 1), (6, .goto 4, 3), (9, .iload_n 1, 1), (10, .ireturn, 1)]
theorem kJ9_min_7cf53 : dchk cJ9_min_7cf53 pJ9_min_7cf53 = true := by decide +kernel
def pJ0_length_8abf5 : List (Nat × Instr × Nat) := [(0, .aload_n 0, 1), (1, .getfield 9, 3), (4, .arraylength, 1), (5, .aload_n 0, 1), (6, .invokevirtual 335, 3), (9, .ishr, 1), (10, .ireturn, 1)]
theorem kJ0_length_8abf5 : dchk cJ0_length_8abf5 pJ0_length_8abf5 = true := by decide +kernel
def pJ0_indexOf_0f7a4 : List (Nat × Instr × Nat) := [(0, .aload_n 0, 1), (1, .iload_n 1, 1), (2, .iconst 0, 1), (3, .invokevirtual 633, 3), (6, .ireturn, 1)]
theorem kJ0_indexOf_0f7a4 : dchk cJ0_indexOf_0f7a4 pJ0_indexOf_0f7a4 = true := by decide +kernel
def pJ0_indexOf_7cf53 : List (Nat × Instr × Nat) := [(0, .aload_n 0, 1), (1, .invokevirtual 492, 3), (4, .ifCond .eq 19, 3), (7, .aload_n 0, 1), (8, .getfield 9, 3), (11, .iload_n 1, 1), (12, .iload_n 2, 1), (13, .aload_n 0, 1), (14, .invokevirtual 505, 3), (17, .invokestatic 637, 3), (20, .goto 16, 3), (23, .aload_n 0, 1), (24, .getfield 9, 3), (27, .iload_n 1, 1), (28, .iload_n 2, 1), (29, .aload_n 0, 1), (30, .invokevirtual 505, 3), (33, .invokestatic 640, 3), (36, .ireturn, 1)]
theorem kJ0_indexOf_7cf53 : dchk cJ0_indexOf_7cf53 pJ0_indexOf_7cf53 = true := by decide +kernel
def pJ0_coder_7d493 : List (Nat × Instr × Nat) := [(0, .getstatic 38, 3), (3, .ifCond .eq 10, 3), (6, .aload_n 0, 1), (7, .getfield 15, 3), (10, .goto 4, 3), (13, .iconst 1, 1), (14, .ireturn, 1)]
theorem kJ0_coder_7d493 : dchk cJ0_coder_7d493 pJ0_coder_7d493 = true := by decide +kernel
def pJ0_isLatin1_aae02 : List (Nat × Instr × Nat) := [(0, .getstatic 38, 3), (3, .ifCond .eq 14, 3), (6, .aload_n 0, 1), (7, .getfield 15, 3), (10, .ifCond .ne 7, 3), (13, .iconst 1, 1), (14, .goto 4, 3), (17, .iconst 0, 1), (18, .ireturn, 1)]
theorem kJ0_isLatin1_aae02 : dchk cJ0_isLatin1_aae02 pJ0_isLatin1_aae02 = true := by decide +kernel
def pJ1_canEncode_9a6ad : List (Nat × Instr × Nat) := [(0, .iload_n 0, 1), (1, .ifCond .lt 14, 3), (4, .iload_n 0, 1), (5, .sipush 255, 3), (8, .if_icmp .gt 7, 3), (11, .iconst 1, 1), (12, .goto 4, 3), (15, .iconst 0, 1), (16, .ireturn, 1)]
theorem kJ1_canEncode_9a6ad : dchk cJ1_canEncode_9a6ad pJ1_canEncode_9a6ad = true := by decide +kernel
def pJ1_indexOf_4cfef : List (Nat × Instr × Nat) := [(0, .iload_n 1, 1), (1, .invokestatic 88, 3), (4, .ifCond .ne 5, 3), (7, .iconst (-1), 1), (8, .ireturn, 1), (9, .iload_n 2, 1), (10, .iconst 0, 1), (11, .invokestatic 92, 3), (14, .istore_n 2, 1), (15, .iload_n 3, 1), (16, .aload_n 0, 1), (17, .arraylength, 1), (18, .invokestatic 38, 3), (21, .istore_n 3, 1), (22, .iload_n 2, 1), (23, .iload_n 3, 1), (24, .if_icmp .lt 5, 3), (27, .iconst (-1), 1), (28, .ireturn, 1), (29, .aload_n 0, 1), (30, .iload_n 1, 1), (31, .iload_n 2, 1), (32, .iload_n 3, 1), (33, .invokestatic 95, 3), (36, .ireturn, 1)]
theorem kJ1_indexOf_4cfef : dchk cJ1_indexOf_4cfef pJ1_indexOf_4cfef = true := by decide +kernel
def pJ1_indexOfChar_4cfef : List (Nat × Instr × Nat) := [(0, .iload_n 1, 1), (1, .i2b, 1), (2, .istore 4, 2), (4, .iload_n 2, 1), (5, .istore 5, 2), (7, .iload 5, 2), (9, .iload_n 3, 1), (10, .if_icmp .ge 21, 3), (13, .aload_n 0, 1), (14, .iload 5, 2), (16, .baload, 1), (17, .iload 4, 2), (19, .if_icmp .ne 6, 3), (22, .iload 5, 2), (24, .ireturn, 1), (25, .iinc 5 1, 3), (28, .goto (-21), 3), (31, .iconst (-1), 1), (32, .ireturn, 1)]
theorem kJ1_indexOfChar_4cfef : dchk cJ1_indexOfChar_4cfef pJ1_indexOfChar_4cfef = true := by decide +kernel
def pJ7_fill_53178 : List (Nat × Instr × Nat) := [(0, .iconst 0, 1), (1, .istore_n 2, 1), (2, .aload_n 0, 1), (3, .arraylength, 1), (4, .istore_n 3, 1), (5, .iload_n 2, 1), (6, .iload_n 3, 1), (7, .if_icmp .ge 13, 3), (10, .aload_n 0, 1), (11, .iload_n 2, 1), (12, .iload_n 1, 1), (13, .iastore, 1), (14, .iinc 2 1, 3), (17, .goto (-12), 3), (20, .return_, 1)]
theorem kJ7_fill_53178 : dchk cJ7_fill_53178 pJ7_fill_53178 = true := by decide +kernel
end
section
def isNestW : Cond → Bool
  | .methodLinkNest .. => true
  | _ => false
def okW (w : Cond) : Bool := w.onTables && (w.keeps || isNestW w)
/-- the tables' words that stay while the machine warms up -/
def tb : List Cond := lw_tbl.filter okW
theorem tb_in {w : Cond} (h : w ∈ lw_tbl) (ho : okW w = true) : w ∈ tb := List.mem_filter.mpr ⟨h, ho⟩
theorem tinl1 (i : Nat) {w : Cond} (h : tables_1_1[i]? = some w) : w ∈ lw_tbl := List.mem_append_right _ (List.mem_append_left _ (List.mem_of_getElem? h))
theorem tin1 (i : Nat) {w : Cond} (h : tables_1_1[i]? = some w ∧ okW w = true) : w ∈ tb := tb_in (tinl1 i h.1) h.2
theorem tinl2 (i : Nat) {w : Cond} (h : tables_1_2[i]? = some w) : w ∈ lw_tbl := List.mem_append_right _ (List.mem_append_right _ (List.mem_append_left _ (List.mem_of_getElem? h)))
theorem tin2 (i : Nat) {w : Cond} (h : tables_1_2[i]? = some w ∧ okW w = true) : w ∈ tb := tb_in (tinl2 i h.1) h.2
theorem tinl3 (i : Nat) {w : Cond} (h : tables_1_3[i]? = some w) : w ∈ lw_tbl := List.mem_append_right _ (List.mem_append_right _ (List.mem_append_right _ (List.mem_append_left _ (List.mem_of_getElem? h))))
theorem tin3 (i : Nat) {w : Cond} (h : tables_1_3[i]? = some w ∧ okW w = true) : w ∈ tb := tb_in (tinl3 i h.1) h.2
theorem tinl4 (i : Nat) {w : Cond} (h : tables_1_4[i]? = some w) : w ∈ lw_tbl := List.mem_append_right _ (List.mem_append_right _ (List.mem_append_right _ (List.mem_append_right _ (List.mem_append_left _ (List.mem_of_getElem? h)))))
theorem tin4 (i : Nat) {w : Cond} (h : tables_1_4[i]? = some w ∧ okW w = true) : w ∈ tb := tb_in (tinl4 i h.1) h.2
theorem tinl5 (i : Nat) {w : Cond} (h : tables_1_5[i]? = some w) : w ∈ lw_tbl := List.mem_append_right _ (List.mem_append_right _ (List.mem_append_right _ (List.mem_append_right _ (List.mem_append_right _ (List.mem_append_left _ (List.mem_of_getElem? h))))))
theorem tin5 (i : Nat) {w : Cond} (h : tables_1_5[i]? = some w ∧ okW w = true) : w ∈ tb := tb_in (tinl5 i h.1) h.2
theorem tinl6 (i : Nat) {w : Cond} (h : tables_1_6[i]? = some w) : w ∈ lw_tbl := List.mem_append_right _ (List.mem_append_right _ (List.mem_append_right _ (List.mem_append_right _ (List.mem_append_right _ (List.mem_append_right _ (List.mem_append_left _ (List.mem_of_getElem? h)))))))
theorem tin6 (i : Nat) {w : Cond} (h : tables_1_6[i]? = some w ∧ okW w = true) : w ∈ tb := tb_in (tinl6 i h.1) h.2
theorem tinl7 (i : Nat) {w : Cond} (h : tables_1_7[i]? = some w) : w ∈ lw_tbl := List.mem_append_right _ (List.mem_append_right _ (List.mem_append_right _ (List.mem_append_right _ (List.mem_append_right _ (List.mem_append_right _ (List.mem_append_right _ (List.mem_of_getElem? h)))))))
theorem tin7 (i : Nat) {w : Cond} (h : tables_1_7[i]? = some w ∧ okW w = true) : w ∈ tb := tb_in (tinl7 i h.1) h.2
theorem tinp (i : Nat) {w : Cond} (h : (k2_sels lw_privs)[i]? = some w ∧ okW w = true) : w ∈ tb := tb_in (List.mem_append_left _ (List.mem_of_getElem? h.1)) h.2
/-- a class of the world: its number, its fields' table -/
def CLk (ci : Nat) (C : String) (T : u_T) (N : Nat) (ty : Nat → FieldType) : Prop := vwCl[ci]? = some (C, T, N) ∧ (∀ w ∈ u_ws C T N, w ∈ tb) ∧ (∀ k, k < N → parseFieldDescriptor (T k).2.2.1 = some (ty k)) ∧ (∀ a, a < N → ∀ b, b < N → a ≠ b → (T a).2.1 ≠ (T b).2.1)
/-- entry idx of own's pool is field j of class ci -/
def FL (own : String) (idx ci j : Nat) (fin : Bool) (tj : FieldType) : Prop := ∃ (C : String) (T : u_T) (N : Nat) (ty : Nat → FieldType), CLk ci C T N ty ∧ j < N ∧ Cond.fieldLink own idx (T j).1 (T j).2.1 (T j).2.2.1 ∈ tb ∧ (T j).2.2.2 = fin ∧ ty j = tj
/-- a method: its name, bytes, locals, answer, frames and words of room -/
abbrev MT : Type := MethodName × ByteArray × Nat × Option FieldType × Nat × Nat
/-- entry idx of own's pool is method M; what its call needs of the tables -/
def CF (own : String) (idx : Nat) (M : MT) (n : Nat) : Prop := Cond.code M.1 M.2.1 M.2.2.1 M.2.2.2.1 ∈ tb ∧ Cond.initialized M.1.cls ∈ tb ∧ (M.1.cls ≠ "java/lang/invoke/MethodHandle" ∧ M.1.cls ≠ "java/lang/invoke/VarHandle" ∧ (parseMethodDescriptor M.1.desc).map (fun d => d.parameters.length) = some n) ∧ (Cond.methodLink own idx M.1 ∈ tb ∨ ∃ host, Cond.methodLinkNest own idx M.1 host ∈ tb)
def CV (M : MT) : Prop := Cond.instanceMethod M.1 ∈ tb ∧ Cond.selects M.1.cls M.1 M.1 ∈ tb
def CS (M : MT) : Prop := Cond.static M.1 ∈ tb
theorem wiX0 : ∀ w ∈ u_ws RX0 TX0 5, w ∈ tb := by
  have h : ∀ k, k < 5 → u_lay RX0 TX0 k ∈ tb := by
    intro k hk
    match k, hk with
    | 0, _ => exact tin1 108 (by decide +kernel)
    | 1, _ => exact tin1 110 (by decide +kernel)
    | 2, _ => exact tin1 112 (by decide +kernel)
    | 3, _ => exact tin1 114 (by decide +kernel)
    | 4, _ => exact tin1 116 (by decide +kernel)
    | k + 5, hk => exact absurd hk (by omega)
  intro w hw
  obtain ⟨k, hk, rfl⟩ := List.mem_map.mp hw
  exact h k (List.mem_range.mp hk)
theorem clX0 : CLk 0 RX0 TX0 5 tyX0 := ⟨rfl, wiX0, tyX0_ok, nmX0⟩
theorem wiX1 : ∀ w ∈ u_ws RX1 TX1 5, w ∈ tb := by
  have h : ∀ k, k < 5 → u_lay RX1 TX1 k ∈ tb := by
    intro k hk
    match k, hk with
    | 0, _ => exact tin1 84 (by decide +kernel)
    | 1, _ => exact tin1 86 (by decide +kernel)
    | 2, _ => exact tin1 88 (by decide +kernel)
    | 3, _ => exact tin1 90 (by decide +kernel)
    | 4, _ => exact tin1 92 (by decide +kernel)
    | k + 5, hk => exact absurd hk (by omega)
  intro w hw
  obtain ⟨k, hk, rfl⟩ := List.mem_map.mp hw
  exact h k (List.mem_range.mp hk)
theorem clX1 : CLk 1 RX1 TX1 5 tyX1 := ⟨rfl, wiX1, tyX1_ok, nmX1⟩
theorem wiX2 : ∀ w ∈ u_ws RX2 TX2 17, w ∈ tb := by
  have h : ∀ k, k < 17 → u_lay RX2 TX2 k ∈ tb := by
    intro k hk
    match k, hk with
    | 0, _ => exact tin1 176 (by decide +kernel)
    | 1, _ => exact tin1 178 (by decide +kernel)
    | 2, _ => exact tin1 180 (by decide +kernel)
    | 3, _ => exact tin1 182 (by decide +kernel)
    | 4, _ => exact tin1 184 (by decide +kernel)
    | 5, _ => exact tin1 186 (by decide +kernel)
    | 6, _ => exact tin1 188 (by decide +kernel)
    | 7, _ => exact tin1 190 (by decide +kernel)
    | 8, _ => exact tin1 192 (by decide +kernel)
    | 9, _ => exact tin1 194 (by decide +kernel)
    | 10, _ => exact tin1 196 (by decide +kernel)
    | 11, _ => exact tin1 198 (by decide +kernel)
    | 12, _ => exact tin1 200 (by decide +kernel)
    | 13, _ => exact tin1 202 (by decide +kernel)
    | 14, _ => exact tin1 204 (by decide +kernel)
    | 15, _ => exact tin1 206 (by decide +kernel)
    | 16, _ => exact tin1 208 (by decide +kernel)
    | k + 17, hk => exact absurd hk (by omega)
  intro w hw
  obtain ⟨k, hk, rfl⟩ := List.mem_map.mp hw
  exact h k (List.mem_range.mp hk)
theorem clX2 : CLk 2 RX2 TX2 17 tyX2 := ⟨rfl, wiX2, tyX2_ok, nmX2⟩
theorem wiX3 : ∀ w ∈ u_ws RX3 TX3 4, w ∈ tb := by
  have h : ∀ k, k < 4 → u_lay RX3 TX3 k ∈ tb := by
    intro k hk
    match k, hk with
    | 0, _ => exact tin1 223 (by decide +kernel)
    | 1, _ => exact tin1 225 (by decide +kernel)
    | 2, _ => exact tin1 227 (by decide +kernel)
    | 3, _ => exact tin1 229 (by decide +kernel)
    | k + 4, hk => exact absurd hk (by omega)
  intro w hw
  obtain ⟨k, hk, rfl⟩ := List.mem_map.mp hw
  exact h k (List.mem_range.mp hk)
theorem clX3 : CLk 3 RX3 TX3 4 tyX3 := ⟨rfl, wiX3, tyX3_ok, nmX3⟩
theorem wiX4 : ∀ w ∈ u_ws RX4 TX4 4, w ∈ tb := by
  have h : ∀ k, k < 4 → u_lay RX4 TX4 k ∈ tb := by
    intro k hk
    match k, hk with
    | 0, _ => exact tin2 41 (by decide +kernel)
    | 1, _ => exact tin2 43 (by decide +kernel)
    | 2, _ => exact tin2 45 (by decide +kernel)
    | 3, _ => exact tin2 47 (by decide +kernel)
    | k + 4, hk => exact absurd hk (by omega)
  intro w hw
  obtain ⟨k, hk, rfl⟩ := List.mem_map.mp hw
  exact h k (List.mem_range.mp hk)
theorem clX4 : CLk 4 RX4 TX4 4 tyX4 := ⟨rfl, wiX4, tyX4_ok, nmX4⟩
theorem wiX5 : ∀ w ∈ u_ws RX5 TX5 4, w ∈ tb := by
  have h : ∀ k, k < 4 → u_lay RX5 TX5 k ∈ tb := by
    intro k hk
    match k, hk with
    | 0, _ => exact tin1 142 (by decide +kernel)
    | 1, _ => exact tin1 144 (by decide +kernel)
    | 2, _ => exact tin1 146 (by decide +kernel)
    | 3, _ => exact tin1 148 (by decide +kernel)
    | k + 4, hk => exact absurd hk (by omega)
  intro w hw
  obtain ⟨k, hk, rfl⟩ := List.mem_map.mp hw
  exact h k (List.mem_range.mp hk)
theorem clX5 : CLk 5 RX5 TX5 4 tyX5 := ⟨rfl, wiX5, tyX5_ok, nmX5⟩
theorem wiX6 : ∀ w ∈ u_ws RX6 TX6 8, w ∈ tb := by
  have h : ∀ k, k < 8 → u_lay RX6 TX6 k ∈ tb := by
    intro k hk
    match k, hk with
    | 0, _ => exact tin1 53 (by decide +kernel)
    | 1, _ => exact tin1 55 (by decide +kernel)
    | 2, _ => exact tin1 57 (by decide +kernel)
    | 3, _ => exact tin1 59 (by decide +kernel)
    | 4, _ => exact tin1 61 (by decide +kernel)
    | 5, _ => exact tin1 63 (by decide +kernel)
    | 6, _ => exact tin1 65 (by decide +kernel)
    | 7, _ => exact tin1 67 (by decide +kernel)
    | k + 8, hk => exact absurd hk (by omega)
  intro w hw
  obtain ⟨k, hk, rfl⟩ := List.mem_map.mp hw
  exact h k (List.mem_range.mp hk)
theorem clX6 : CLk 6 RX6 TX6 8 tyX6 := ⟨rfl, wiX6, tyX6_ok, nmX6⟩
theorem wiX7 : ∀ w ∈ u_ws RX7 TX7 8, w ∈ tb := by
  have h : ∀ k, k < 8 → u_lay RX7 TX7 k ∈ tb := by
    intro k hk
    match k, hk with
    | 0, _ => exact tin2 11 (by decide +kernel)
    | 1, _ => exact tin2 13 (by decide +kernel)
    | 2, _ => exact tin2 15 (by decide +kernel)
    | 3, _ => exact tin2 17 (by decide +kernel)
    | 4, _ => exact tin2 19 (by decide +kernel)
    | 5, _ => exact tin2 21 (by decide +kernel)
    | 6, _ => exact tin2 23 (by decide +kernel)
    | 7, _ => exact tin2 25 (by decide +kernel)
    | k + 8, hk => exact absurd hk (by omega)
  intro w hw
  obtain ⟨k, hk, rfl⟩ := List.mem_map.mp hw
  exact h k (List.mem_range.mp hk)
theorem clX7 : CLk 7 RX7 TX7 8 tyX7 := ⟨rfl, wiX7, tyX7_ok, nmX7⟩
theorem wiX8 : ∀ w ∈ u_ws RX8 TX8 16, w ∈ tb := by
  have h : ∀ k, k < 16 → u_lay RX8 TX8 k ∈ tb := by
    intro k hk
    match k, hk with
    | 0, _ => exact tin2 66 (by decide +kernel)
    | 1, _ => exact tin2 68 (by decide +kernel)
    | 2, _ => exact tin2 70 (by decide +kernel)
    | 3, _ => exact tin2 72 (by decide +kernel)
    | 4, _ => exact tin2 74 (by decide +kernel)
    | 5, _ => exact tin2 76 (by decide +kernel)
    | 6, _ => exact tin2 78 (by decide +kernel)
    | 7, _ => exact tin2 80 (by decide +kernel)
    | 8, _ => exact tin2 82 (by decide +kernel)
    | 9, _ => exact tin2 84 (by decide +kernel)
    | 10, _ => exact tin2 86 (by decide +kernel)
    | 11, _ => exact tin2 88 (by decide +kernel)
    | 12, _ => exact tin2 90 (by decide +kernel)
    | 13, _ => exact tin2 92 (by decide +kernel)
    | 14, _ => exact tin2 94 (by decide +kernel)
    | 15, _ => exact tin2 96 (by decide +kernel)
    | k + 16, hk => exact absurd hk (by omega)
  intro w hw
  obtain ⟨k, hk, rfl⟩ := List.mem_map.mp hw
  exact h k (List.mem_range.mp hk)
theorem clX8 : CLk 8 RX8 TX8 16 tyX8 := ⟨rfl, wiX8, tyX8_ok, nmX8⟩
theorem wiX9 : ∀ w ∈ u_ws RX9 TX9 28, w ∈ tb := by
  have h : ∀ k, k < 28 → u_lay RX9 TX9 k ∈ tb := by
    intro k hk
    match k, hk with
    | 0, _ => exact tin5 32 (by decide +kernel)
    | 1, _ => exact tin5 34 (by decide +kernel)
    | 2, _ => exact tin5 36 (by decide +kernel)
    | 3, _ => exact tin5 38 (by decide +kernel)
    | 4, _ => exact tin5 40 (by decide +kernel)
    | 5, _ => exact tin5 42 (by decide +kernel)
    | 6, _ => exact tin5 44 (by decide +kernel)
    | 7, _ => exact tin5 46 (by decide +kernel)
    | 8, _ => exact tin5 48 (by decide +kernel)
    | 9, _ => exact tin5 50 (by decide +kernel)
    | 10, _ => exact tin5 52 (by decide +kernel)
    | 11, _ => exact tin5 54 (by decide +kernel)
    | 12, _ => exact tin5 56 (by decide +kernel)
    | 13, _ => exact tin5 58 (by decide +kernel)
    | 14, _ => exact tin5 60 (by decide +kernel)
    | 15, _ => exact tin5 62 (by decide +kernel)
    | 16, _ => exact tin5 64 (by decide +kernel)
    | 17, _ => exact tin5 66 (by decide +kernel)
    | 18, _ => exact tin5 68 (by decide +kernel)
    | 19, _ => exact tin5 70 (by decide +kernel)
    | 20, _ => exact tin5 72 (by decide +kernel)
    | 21, _ => exact tin5 74 (by decide +kernel)
    | 22, _ => exact tin5 76 (by decide +kernel)
    | 23, _ => exact tin5 78 (by decide +kernel)
    | 24, _ => exact tin5 80 (by decide +kernel)
    | 25, _ => exact tin5 82 (by decide +kernel)
    | 26, _ => exact tin5 84 (by decide +kernel)
    | 27, _ => exact tin5 86 (by decide +kernel)
    | k + 28, hk => exact absurd hk (by omega)
  intro w hw
  obtain ⟨k, hk, rfl⟩ := List.mem_map.mp hw
  exact h k (List.mem_range.mp hk)
theorem clX9 : CLk 9 RX9 TX9 28 tyX9 := ⟨rfl, wiX9, tyX9_ok, nmX9⟩
theorem fl_X8_11 : FL RX8 11 8 0 true (.array (.object "TinDucks$Text")) := ⟨RX8, TX8, 16, tyX8, clX8, by decide, tin2 50 (by decide +kernel), rfl, rfl⟩
theorem fl_X8_18 : FL RX8 18 8 1 true (.object "TinDucks$Stand") := ⟨RX8, TX8, 16, tyX8, clX8, by decide, tin2 51 (by decide +kernel), rfl, rfl⟩
theorem fl_X8_25 : FL RX8 25 8 2 true (.object "TinDucks$Events") := ⟨RX8, TX8, 16, tyX8, clX8, by decide, tin2 52 (by decide +kernel), rfl, rfl⟩
theorem fl_X8_34 : FL RX8 34 8 3 true (.object "TinDucks$Course") := ⟨RX8, TX8, 16, tyX8, clX8, by decide, tin2 53 (by decide +kernel), rfl, rfl⟩
theorem fl_X8_38 : FL RX8 38 8 4 true (.object "TinDucks$Course") := ⟨RX8, TX8, 16, tyX8, clX8, by decide, tin2 54 (by decide +kernel), rfl, rfl⟩
theorem fl_X8_46 : FL RX8 46 8 5 true (.object "TinDucks$Round") := ⟨RX8, TX8, 16, tyX8, clX8, by decide, tin2 55 (by decide +kernel), rfl, rfl⟩
theorem fl_X8_50 : FL RX8 50 8 6 true (.object "TinDucks$Round") := ⟨RX8, TX8, 16, tyX8, clX8, by decide, tin2 56 (by decide +kernel), rfl, rfl⟩
theorem fl_X8_56 : FL RX8 56 8 7 true (.object "TinDucks$Seen") := ⟨RX8, TX8, 16, tyX8, clX8, by decide, tin2 57 (by decide +kernel), rfl, rfl⟩
theorem fl_X8_62 : FL RX8 62 8 8 true (.array (.object "TinDucks$Sheet")) := ⟨RX8, TX8, 16, tyX8, clX8, by decide, tin2 58 (by decide +kernel), rfl, rfl⟩
theorem fl_X8_66 : FL RX8 66 8 11 true (.array .int) := ⟨RX8, TX8, 16, tyX8, clX8, by decide, tin2 61 (by decide +kernel), rfl, rfl⟩
theorem fl_X8_70 : FL RX8 70 8 12 true (.array .int) := ⟨RX8, TX8, 16, tyX8, clX8, by decide, tin2 62 (by decide +kernel), rfl, rfl⟩
theorem fl_X8_89 : FL RX8 89 8 9 false .boolean := ⟨RX8, TX8, 16, tyX8, clX8, by decide, tin2 59 (by decide +kernel), rfl, rfl⟩
theorem fl_X8_93 : FL RX8 93 7 5 false .int := ⟨RX7, TX7, 8, tyX7, clX7, by decide, tin2 5 (by decide +kernel), rfl, rfl⟩
theorem fl_X8_100 : FL RX8 100 7 7 false .int := ⟨RX7, TX7, 8, tyX7, clX7, by decide, tin2 10 (by decide +kernel), rfl, rfl⟩
theorem fl_X8_104 : FL RX8 104 6 0 true (.array .int) := ⟨RX6, TX6, 8, tyX6, clX6, by decide, tin1 38 (by decide +kernel), rfl, rfl⟩
theorem fl_X8_118 : FL RX8 118 2 1 true (.object "TinDucks$Shots") := ⟨RX2, TX2, 17, tyX2, clX2, by decide, tin1 153 (by decide +kernel), rfl, rfl⟩
theorem fl_X8_127 : FL RX8 127 2 3 false .int := ⟨RX2, TX2, 17, tyX2, clX2, by decide, tin1 157 (by decide +kernel), rfl, rfl⟩
theorem fl_X8_130 : FL RX8 130 2 4 false .int := ⟨RX2, TX2, 17, tyX2, clX2, by decide, tin1 159 (by decide +kernel), rfl, rfl⟩
theorem fl_X8_141 : FL RX8 141 1 4 false .int := ⟨RX1, TX1, 5, tyX1, clX1, by decide, tin1 83 (by decide +kernel), rfl, rfl⟩
theorem fl_X8_151 : FL RX8 151 4 2 false .int := ⟨RX4, TX4, 4, tyX4, clX4, by decide, tin2 38 (by decide +kernel), rfl, rfl⟩
theorem fl_X8_152 : FL RX8 152 4 0 true (.array .int) := ⟨RX4, TX4, 4, tyX4, clX4, by decide, tin2 34 (by decide +kernel), rfl, rfl⟩
theorem fl_X8_165 : FL RX8 165 2 6 true (.array .int) := ⟨RX2, TX2, 17, tyX2, clX2, by decide, tin1 163 (by decide +kernel), rfl, rfl⟩
theorem fl_X8_182 : FL RX8 182 8 14 false .int := ⟨RX8, TX8, 16, tyX8, clX8, by decide, tin2 64 (by decide +kernel), rfl, rfl⟩
theorem fl_X8_185 : FL RX8 185 8 13 false .int := ⟨RX8, TX8, 16, tyX8, clX8, by decide, tin2 63 (by decide +kernel), rfl, rfl⟩
theorem fl_X8_212 : FL RX8 212 3 3 false .int := ⟨RX3, TX3, 4, tyX3, clX3, by decide, tin1 222 (by decide +kernel), rfl, rfl⟩
theorem fl_X8_244 : FL RX8 244 4 3 false .boolean := ⟨RX4, TX4, 4, tyX4, clX4, by decide, tin2 40 (by decide +kernel), rfl, rfl⟩
theorem fl_X8_253 : FL RX8 253 4 1 false .int := ⟨RX4, TX4, 4, tyX4, clX4, by decide, tin2 36 (by decide +kernel), rfl, rfl⟩
theorem fl_X8_282 : FL RX8 282 6 5 false .int := ⟨RX6, TX6, 8, tyX6, clX6, by decide, tin1 48 (by decide +kernel), rfl, rfl⟩
theorem fl_X8_289 : FL RX8 289 5 3 false .int := ⟨RX5, TX5, 4, tyX5, clX5, by decide, tin1 141 (by decide +kernel), rfl, rfl⟩
theorem fl_X8_311 : FL RX8 311 8 15 false .int := ⟨RX8, TX8, 16, tyX8, clX8, by decide, tin2 65 (by decide +kernel), rfl, rfl⟩
theorem fl_X8_331 : FL RX8 331 6 3 true (.array .int) := ⟨RX6, TX6, 8, tyX6, clX6, by decide, tin1 44 (by decide +kernel), rfl, rfl⟩
theorem fl_X8_334 : FL RX8 334 2 2 true (.array .int) := ⟨RX2, TX2, 17, tyX2, clX2, by decide, tin1 155 (by decide +kernel), rfl, rfl⟩
theorem fl_X8_338 : FL RX8 338 8 10 false .boolean := ⟨RX8, TX8, 16, tyX8, clX8, by decide, tin2 60 (by decide +kernel), rfl, rfl⟩
theorem fl_X8_341 : FL RX8 341 2 11 false .int := ⟨RX2, TX2, 17, tyX2, clX2, by decide, tin1 169 (by decide +kernel), rfl, rfl⟩
theorem fl_X8_344 : FL RX8 344 2 12 false .int := ⟨RX2, TX2, 17, tyX2, clX2, by decide, tin1 171 (by decide +kernel), rfl, rfl⟩
theorem fl_X8_360 : FL RX8 360 5 2 true (.array .int) := ⟨RX5, TX5, 4, tyX5, clX5, by decide, tin1 138 (by decide +kernel), rfl, rfl⟩
theorem fl_X8_363 : FL RX8 363 5 0 true (.array .int) := ⟨RX5, TX5, 4, tyX5, clX5, by decide, tin1 133 (by decide +kernel), rfl, rfl⟩
theorem fl_X8_366 : FL RX8 366 2 5 false (.object "TinDucks$Course") := ⟨RX2, TX2, 17, tyX2, clX2, by decide, tin1 161 (by decide +kernel), rfl, rfl⟩
theorem fl_X0_9 : FL RX0 9 0 2 true (.array .int) := ⟨RX0, TX0, 5, tyX0, clX0, by decide, tin1 103 (by decide +kernel), rfl, rfl⟩
theorem fl_X0_15 : FL RX0 15 0 3 true (.array .int) := ⟨RX0, TX0, 5, tyX0, clX0, by decide, tin1 104 (by decide +kernel), rfl, rfl⟩
theorem fl_X0_18 : FL RX0 18 0 4 true (.array .int) := ⟨RX0, TX0, 5, tyX0, clX0, by decide, tin1 106 (by decide +kernel), rfl, rfl⟩
theorem fl_X0_21 : FL RX0 21 0 0 true (.object "TinDucks$Stand") := ⟨RX0, TX0, 5, tyX0, clX0, by decide, tin1 101 (by decide +kernel), rfl, rfl⟩
theorem fl_X0_25 : FL RX0 25 0 1 true (.object "TinDucks$Events") := ⟨RX0, TX0, 5, tyX0, clX0, by decide, tin1 102 (by decide +kernel), rfl, rfl⟩
theorem fl_X0_29 : FL RX0 29 1 3 true (.array .int) := ⟨RX1, TX1, 5, tyX1, clX1, by decide, tin1 81 (by decide +kernel), rfl, rfl⟩
theorem fl_X0_45 : FL RX0 45 6 0 true (.array .int) := ⟨RX6, TX6, 8, tyX6, clX6, by decide, tin1 37 (by decide +kernel), rfl, rfl⟩
theorem fl_X0_55 : FL RX0 55 6 7 true (.array .int) := ⟨RX6, TX6, 8, tyX6, clX6, by decide, tin1 52 (by decide +kernel), rfl, rfl⟩
theorem fl_X0_58 : FL RX0 58 6 2 true (.array .int) := ⟨RX6, TX6, 8, tyX6, clX6, by decide, tin1 42 (by decide +kernel), rfl, rfl⟩
theorem fl_X0_61 : FL RX0 61 6 1 true (.array .int) := ⟨RX6, TX6, 8, tyX6, clX6, by decide, tin1 40 (by decide +kernel), rfl, rfl⟩
theorem fl_X0_64 : FL RX0 64 6 6 true (.array .int) := ⟨RX6, TX6, 8, tyX6, clX6, by decide, tin1 50 (by decide +kernel), rfl, rfl⟩
theorem fl_X1_9 : FL RX1 9 1 0 true (.array .int) := ⟨RX1, TX1, 5, tyX1, clX1, by decide, tin1 77 (by decide +kernel), rfl, rfl⟩
theorem fl_X1_15 : FL RX1 15 1 1 true (.array .int) := ⟨RX1, TX1, 5, tyX1, clX1, by decide, tin1 78 (by decide +kernel), rfl, rfl⟩
theorem fl_X1_18 : FL RX1 18 1 2 true (.array .int) := ⟨RX1, TX1, 5, tyX1, clX1, by decide, tin1 79 (by decide +kernel), rfl, rfl⟩
theorem fl_X1_21 : FL RX1 21 1 3 true (.array .int) := ⟨RX1, TX1, 5, tyX1, clX1, by decide, tin1 80 (by decide +kernel), rfl, rfl⟩
theorem fl_X1_24 : FL RX1 24 1 4 false .int := ⟨RX1, TX1, 5, tyX1, clX1, by decide, tin1 82 (by decide +kernel), rfl, rfl⟩
theorem fl_X2_12 : FL RX2 12 2 1 true (.object "TinDucks$Shots") := ⟨RX2, TX2, 17, tyX2, clX2, by decide, tin1 152 (by decide +kernel), rfl, rfl⟩
theorem fl_X2_18 : FL RX2 18 2 2 true (.array .int) := ⟨RX2, TX2, 17, tyX2, clX2, by decide, tin1 154 (by decide +kernel), rfl, rfl⟩
theorem fl_X2_22 : FL RX2 22 2 3 false .int := ⟨RX2, TX2, 17, tyX2, clX2, by decide, tin1 156 (by decide +kernel), rfl, rfl⟩
theorem fl_X2_26 : FL RX2 26 2 4 false .int := ⟨RX2, TX2, 17, tyX2, clX2, by decide, tin1 158 (by decide +kernel), rfl, rfl⟩
theorem fl_X2_29 : FL RX2 29 2 6 true (.array .int) := ⟨RX2, TX2, 17, tyX2, clX2, by decide, tin1 162 (by decide +kernel), rfl, rfl⟩
theorem fl_X2_32 : FL RX2 32 2 7 true (.array .int) := ⟨RX2, TX2, 17, tyX2, clX2, by decide, tin1 164 (by decide +kernel), rfl, rfl⟩
theorem fl_X2_35 : FL RX2 35 2 8 true (.array .long) := ⟨RX2, TX2, 17, tyX2, clX2, by decide, tin1 165 (by decide +kernel), rfl, rfl⟩
theorem fl_X2_39 : FL RX2 39 2 9 true (.array .int) := ⟨RX2, TX2, 17, tyX2, clX2, by decide, tin1 166 (by decide +kernel), rfl, rfl⟩
theorem fl_X2_42 : FL RX2 42 2 10 true (.array .int) := ⟨RX2, TX2, 17, tyX2, clX2, by decide, tin1 167 (by decide +kernel), rfl, rfl⟩
theorem fl_X2_45 : FL RX2 45 2 13 true (.array .int) := ⟨RX2, TX2, 17, tyX2, clX2, by decide, tin1 172 (by decide +kernel), rfl, rfl⟩
theorem fl_X2_48 : FL RX2 48 2 0 true (.object "TinDucks$Stand") := ⟨RX2, TX2, 17, tyX2, clX2, by decide, tin1 151 (by decide +kernel), rfl, rfl⟩
theorem fl_X2_52 : FL RX2 52 2 5 false (.object "TinDucks$Course") := ⟨RX2, TX2, 17, tyX2, clX2, by decide, tin1 160 (by decide +kernel), rfl, rfl⟩
theorem fl_X2_66 : FL RX2 66 5 0 true (.array .int) := ⟨RX5, TX5, 4, tyX5, clX5, by decide, tin1 132 (by decide +kernel), rfl, rfl⟩
theorem fl_X2_91 : FL RX2 91 2 12 false .int := ⟨RX2, TX2, 17, tyX2, clX2, by decide, tin1 170 (by decide +kernel), rfl, rfl⟩
theorem fl_X2_99 : FL RX2 99 2 11 false .int := ⟨RX2, TX2, 17, tyX2, clX2, by decide, tin1 168 (by decide +kernel), rfl, rfl⟩
theorem fl_X2_102 : FL RX2 102 5 3 false .int := ⟨RX5, TX5, 4, tyX5, clX5, by decide, tin1 140 (by decide +kernel), rfl, rfl⟩
theorem fl_X2_108 : FL RX2 108 2 14 false .int := ⟨RX2, TX2, 17, tyX2, clX2, by decide, tin1 173 (by decide +kernel), rfl, rfl⟩
theorem fl_X2_111 : FL RX2 111 0 3 true (.array .int) := ⟨RX0, TX0, 5, tyX0, clX0, by decide, tin1 105 (by decide +kernel), rfl, rfl⟩
theorem fl_X2_114 : FL RX2 114 2 15 false .int := ⟨RX2, TX2, 17, tyX2, clX2, by decide, tin1 174 (by decide +kernel), rfl, rfl⟩
theorem fl_X2_121 : FL RX2 121 2 16 false .long := ⟨RX2, TX2, 17, tyX2, clX2, by decide, tin1 175 (by decide +kernel), rfl, rfl⟩
theorem fl_X2_131 : FL RX2 131 5 2 true (.array .int) := ⟨RX5, TX5, 4, tyX5, clX5, by decide, tin1 137 (by decide +kernel), rfl, rfl⟩
theorem fl_X2_134 : FL RX2 134 0 4 true (.array .int) := ⟨RX0, TX0, 5, tyX0, clX0, by decide, tin1 107 (by decide +kernel), rfl, rfl⟩
theorem fl_X2_140 : FL RX2 140 5 1 true (.array .int) := ⟨RX5, TX5, 4, tyX5, clX5, by decide, tin1 135 (by decide +kernel), rfl, rfl⟩
theorem fl_X2_150 : FL RX2 150 6 4 true (.array .int) := ⟨RX6, TX6, 8, tyX6, clX6, by decide, tin1 46 (by decide +kernel), rfl, rfl⟩
theorem fl_X3_9 : FL RX3 9 3 0 true (.array .int) := ⟨RX3, TX3, 4, tyX3, clX3, by decide, tin1 218 (by decide +kernel), rfl, rfl⟩
theorem fl_X3_15 : FL RX3 15 3 1 true (.array .int) := ⟨RX3, TX3, 4, tyX3, clX3, by decide, tin1 219 (by decide +kernel), rfl, rfl⟩
theorem fl_X3_18 : FL RX3 18 3 2 true (.array .int) := ⟨RX3, TX3, 4, tyX3, clX3, by decide, tin1 220 (by decide +kernel), rfl, rfl⟩
theorem fl_X3_21 : FL RX3 21 3 3 false .int := ⟨RX3, TX3, 4, tyX3, clX3, by decide, tin1 221 (by decide +kernel), rfl, rfl⟩
theorem fl_X4_9 : FL RX4 9 4 0 true (.array .int) := ⟨RX4, TX4, 4, tyX4, clX4, by decide, tin2 33 (by decide +kernel), rfl, rfl⟩
theorem fl_X4_15 : FL RX4 15 4 3 false .boolean := ⟨RX4, TX4, 4, tyX4, clX4, by decide, tin2 39 (by decide +kernel), rfl, rfl⟩
theorem fl_X4_19 : FL RX4 19 4 1 false .int := ⟨RX4, TX4, 4, tyX4, clX4, by decide, tin2 35 (by decide +kernel), rfl, rfl⟩
theorem fl_X4_23 : FL RX4 23 4 2 false .int := ⟨RX4, TX4, 4, tyX4, clX4, by decide, tin2 37 (by decide +kernel), rfl, rfl⟩
theorem fl_X5_9 : FL RX5 9 5 0 true (.array .int) := ⟨RX5, TX5, 4, tyX5, clX5, by decide, tin1 131 (by decide +kernel), rfl, rfl⟩
theorem fl_X5_15 : FL RX5 15 5 1 true (.array .int) := ⟨RX5, TX5, 4, tyX5, clX5, by decide, tin1 134 (by decide +kernel), rfl, rfl⟩
theorem fl_X5_18 : FL RX5 18 5 2 true (.array .int) := ⟨RX5, TX5, 4, tyX5, clX5, by decide, tin1 136 (by decide +kernel), rfl, rfl⟩
theorem fl_X5_21 : FL RX5 21 7 6 false .int := ⟨RX7, TX7, 8, tyX7, clX7, by decide, tin2 6 (by decide +kernel), rfl, rfl⟩
theorem fl_X5_27 : FL RX5 27 5 3 false .int := ⟨RX5, TX5, 4, tyX5, clX5, by decide, tin1 139 (by decide +kernel), rfl, rfl⟩
theorem fl_X6_9 : FL RX6 9 6 0 true (.array .int) := ⟨RX6, TX6, 8, tyX6, clX6, by decide, tin1 36 (by decide +kernel), rfl, rfl⟩
theorem fl_X6_15 : FL RX6 15 6 1 true (.array .int) := ⟨RX6, TX6, 8, tyX6, clX6, by decide, tin1 39 (by decide +kernel), rfl, rfl⟩
theorem fl_X6_18 : FL RX6 18 6 2 true (.array .int) := ⟨RX6, TX6, 8, tyX6, clX6, by decide, tin1 41 (by decide +kernel), rfl, rfl⟩
theorem fl_X6_21 : FL RX6 21 6 3 true (.array .int) := ⟨RX6, TX6, 8, tyX6, clX6, by decide, tin1 43 (by decide +kernel), rfl, rfl⟩
theorem fl_X6_24 : FL RX6 24 6 4 true (.array .int) := ⟨RX6, TX6, 8, tyX6, clX6, by decide, tin1 45 (by decide +kernel), rfl, rfl⟩
theorem fl_X6_27 : FL RX6 27 6 6 true (.array .int) := ⟨RX6, TX6, 8, tyX6, clX6, by decide, tin1 49 (by decide +kernel), rfl, rfl⟩
theorem fl_X6_30 : FL RX6 30 6 7 true (.array .int) := ⟨RX6, TX6, 8, tyX6, clX6, by decide, tin1 51 (by decide +kernel), rfl, rfl⟩
theorem fl_X6_33 : FL RX6 33 7 6 false .int := ⟨RX7, TX7, 8, tyX7, clX7, by decide, tin2 7 (by decide +kernel), rfl, rfl⟩
theorem fl_X6_49 : FL RX6 49 6 5 false .int := ⟨RX6, TX6, 8, tyX6, clX6, by decide, tin1 47 (by decide +kernel), rfl, rfl⟩
theorem fl_X7_9 : FL RX7 9 7 0 true .int := ⟨RX7, TX7, 8, tyX7, clX7, by decide, tin1 239 (by decide +kernel), rfl, rfl⟩
theorem fl_X7_15 : FL RX7 15 7 1 true .int := ⟨RX7, TX7, 8, tyX7, clX7, by decide, tin2 0 (by decide +kernel), rfl, rfl⟩
theorem fl_X7_18 : FL RX7 18 7 2 true .int := ⟨RX7, TX7, 8, tyX7, clX7, by decide, tin2 1 (by decide +kernel), rfl, rfl⟩
theorem fl_X7_21 : FL RX7 21 7 3 true (.array .int) := ⟨RX7, TX7, 8, tyX7, clX7, by decide, tin2 2 (by decide +kernel), rfl, rfl⟩
theorem fl_X7_25 : FL RX7 25 7 4 true (.array .int) := ⟨RX7, TX7, 8, tyX7, clX7, by decide, tin2 3 (by decide +kernel), rfl, rfl⟩
theorem fl_X7_28 : FL RX7 28 7 7 false .int := ⟨RX7, TX7, 8, tyX7, clX7, by decide, tin2 9 (by decide +kernel), rfl, rfl⟩
theorem fl_X7_31 : FL RX7 31 7 5 false .int := ⟨RX7, TX7, 8, tyX7, clX7, by decide, tin2 4 (by decide +kernel), rfl, rfl⟩
theorem fl_X7_38 : FL RX7 38 7 6 false .int := ⟨RX7, TX7, 8, tyX7, clX7, by decide, tin2 8 (by decide +kernel), rfl, rfl⟩
theorem fl_X9_7 : FL RX9 7 9 0 true (.array .int) := ⟨RX9, TX9, 28, tyX9, clX9, by decide, tin5 4 (by decide +kernel), rfl, rfl⟩
theorem fl_X9_13 : FL RX9 13 9 1 true (.array .int) := ⟨RX9, TX9, 28, tyX9, clX9, by decide, tin5 5 (by decide +kernel), rfl, rfl⟩
theorem fl_X9_16 : FL RX9 16 9 2 true (.array .int) := ⟨RX9, TX9, 28, tyX9, clX9, by decide, tin5 6 (by decide +kernel), rfl, rfl⟩
theorem fl_X9_19 : FL RX9 19 9 3 true (.array .int) := ⟨RX9, TX9, 28, tyX9, clX9, by decide, tin5 7 (by decide +kernel), rfl, rfl⟩
theorem fl_X9_22 : FL RX9 22 9 5 true (.array .int) := ⟨RX9, TX9, 28, tyX9, clX9, by decide, tin5 9 (by decide +kernel), rfl, rfl⟩
theorem fl_X9_25 : FL RX9 25 9 6 true (.array .int) := ⟨RX9, TX9, 28, tyX9, clX9, by decide, tin5 10 (by decide +kernel), rfl, rfl⟩
theorem fl_X9_28 : FL RX9 28 9 7 true (.array .int) := ⟨RX9, TX9, 28, tyX9, clX9, by decide, tin5 11 (by decide +kernel), rfl, rfl⟩
theorem fl_X9_31 : FL RX9 31 9 9 true (.array .int) := ⟨RX9, TX9, 28, tyX9, clX9, by decide, tin5 13 (by decide +kernel), rfl, rfl⟩
theorem fl_X9_34 : FL RX9 34 9 11 true (.array .int) := ⟨RX9, TX9, 28, tyX9, clX9, by decide, tin5 15 (by decide +kernel), rfl, rfl⟩
theorem fl_X9_37 : FL RX9 37 9 12 true (.array .int) := ⟨RX9, TX9, 28, tyX9, clX9, by decide, tin5 16 (by decide +kernel), rfl, rfl⟩
theorem fl_X9_40 : FL RX9 40 9 14 true (.array .int) := ⟨RX9, TX9, 28, tyX9, clX9, by decide, tin5 18 (by decide +kernel), rfl, rfl⟩
theorem fl_X9_43 : FL RX9 43 9 16 true (.array .int) := ⟨RX9, TX9, 28, tyX9, clX9, by decide, tin5 20 (by decide +kernel), rfl, rfl⟩
theorem fl_X9_46 : FL RX9 46 9 17 true (.array .int) := ⟨RX9, TX9, 28, tyX9, clX9, by decide, tin5 21 (by decide +kernel), rfl, rfl⟩
theorem fl_X9_49 : FL RX9 49 9 18 true (.array .int) := ⟨RX9, TX9, 28, tyX9, clX9, by decide, tin5 22 (by decide +kernel), rfl, rfl⟩
theorem fl_X9_52 : FL RX9 52 9 19 true (.array .int) := ⟨RX9, TX9, 28, tyX9, clX9, by decide, tin5 23 (by decide +kernel), rfl, rfl⟩
theorem fl_X9_55 : FL RX9 55 9 20 true (.array .int) := ⟨RX9, TX9, 28, tyX9, clX9, by decide, tin5 24 (by decide +kernel), rfl, rfl⟩
theorem fl_X9_58 : FL RX9 58 9 21 true (.array .int) := ⟨RX9, TX9, 28, tyX9, clX9, by decide, tin5 25 (by decide +kernel), rfl, rfl⟩
theorem fl_X9_61 : FL RX9 61 9 22 true (.array .int) := ⟨RX9, TX9, 28, tyX9, clX9, by decide, tin5 26 (by decide +kernel), rfl, rfl⟩
theorem fl_X9_64 : FL RX9 64 9 23 true (.array .int) := ⟨RX9, TX9, 28, tyX9, clX9, by decide, tin5 27 (by decide +kernel), rfl, rfl⟩
theorem fl_X9_67 : FL RX9 67 9 25 true (.array .int) := ⟨RX9, TX9, 28, tyX9, clX9, by decide, tin5 29 (by decide +kernel), rfl, rfl⟩
theorem fl_X9_70 : FL RX9 70 9 26 true (.array .int) := ⟨RX9, TX9, 28, tyX9, clX9, by decide, tin5 30 (by decide +kernel), rfl, rfl⟩
theorem fl_X9_79 : FL RX9 79 9 4 false .int := ⟨RX9, TX9, 28, tyX9, clX9, by decide, tin5 8 (by decide +kernel), rfl, rfl⟩
theorem fl_X9_123 : FL RX9 123 9 8 false .int := ⟨RX9, TX9, 28, tyX9, clX9, by decide, tin5 12 (by decide +kernel), rfl, rfl⟩
theorem fl_X9_132 : FL RX9 132 9 10 false .int := ⟨RX9, TX9, 28, tyX9, clX9, by decide, tin5 14 (by decide +kernel), rfl, rfl⟩
theorem fl_X9_172 : FL RX9 172 9 13 false .int := ⟨RX9, TX9, 28, tyX9, clX9, by decide, tin5 17 (by decide +kernel), rfl, rfl⟩
theorem fl_X9_177 : FL RX9 177 9 15 false .int := ⟨RX9, TX9, 28, tyX9, clX9, by decide, tin5 19 (by decide +kernel), rfl, rfl⟩
theorem fl_X9_256 : FL RX9 256 9 24 false .int := ⟨RX9, TX9, 28, tyX9, clX9, by decide, tin5 28 (by decide +kernel), rfl, rfl⟩
theorem fl_X9_299 : FL RX9 299 9 27 false .int := ⟨RX9, TX9, 28, tyX9, clX9, by decide, tin5 31 (by decide +kernel), rfl, rfl⟩
end
section
def kdL : List Nat := [8, 13, 6, 10, 10, 10, 10, 10, 10, 10, 1, 10, 10, 10, 10, 0, 10, 10, 10, 0, 10, 10, 10, 2, 5, 10, 10, 10, 10, 10, 10, 11, 10, 10, 10, 2, 5, 10, 10, 10, 10, 10, 10, 11, 10, 10, 10, 3, 10, 10, 10, 12, 10, 10, 7, 10, 10, 7, 10, 10, 7, 10, 10, 4, 10, 4, 10, 4, 10, 4, 10, 9, 10, 10, 10, 10, 10, 10, 10, 10, 10, 10, 10, 10, 10, 10, 10, 10, 10, 10, 10, 10, 10]
def lnL : List Nat := [16, 3, 8, 3, 12, 12, 12, 12, 36, 36, 5, 8, 8, 8, 24, 5, 72, 24, 24, 5, 72, 24, 24, 17, 4, 12, 12, 12, 12, 24, 24, 24, 12, 12, 24, 17, 4, 12, 12, 12, 12, 24, 24, 24, 12, 12, 24, 4, 8, 8, 8, 4, 108, 120, 8, 8, 6, 8, 59, 48, 8, 47, 36, 4, 60, 4, 60, 4, 60, 4, 60, 28, 4, 4, 240, 60, 180, 3, 3, 48, 36, 2, 24, 12, 12, 12, 12, 12, 288, 288, 288, 24, 120]
def rtL : List (List Nat) := [[1, 2, 10, 15, 19, 23, 35, 47, 51, 0, 0, 52, 53], [54, 57, 60], [3, 4, 5, 6, 7, 0, 8, 9], [], [], [], [], [], [], [], [11, 12, 13, 14], [], [], [], [], [2, 10, 16, 17, 18], [], [], [], [2, 10, 20, 21, 22], [], [], [], [2, 24, 28, 0, 0, 0, 29, 30, 31, 32, 33, 0, 0, 34], [25, 26, 27], [], [], [], [], [], [], [], [], [], [], [2, 36, 40, 0, 0, 0, 41, 42, 43, 44, 45, 0, 0, 46], [37, 38, 39], [], [], [], [], [], [], [], [], [], [], [48, 49, 50], [], [], [], [63, 65, 67, 69], [], [], [0, 0, 0, 55, 56], [], [], [0, 0, 0, 58, 59], [], [], [0, 0, 0, 61, 62], [], [], [64], [], [66], [], [68], [], [70], [], [72, 73, 74, 75, 0, 76, 77, 78, 0, 79, 0, 80, 81, 0, 82, 0, 83, 84, 85, 86, 87, 88, 89, 90, 0, 91, 92], [], [], [], [], [], [], [], [], [], [], [], [], [], [], [], [], [], [], [], [], []]
def fkL : List (List Nat) := [[2, 2, 2, 2, 2], [2, 2, 2, 2, 0], [2, 2, 2, 0, 0, 3, 2, 2, 2, 2, 2, 0, 0, 2, 0, 0, 1], [2, 2, 2, 0], [2, 0, 0, 0], [2, 2, 2, 0], [2, 2, 2, 2, 2, 0, 2, 2], [0, 0, 0, 2, 2, 0, 0, 0], [2, 2, 2, 2, 2, 2, 2, 2, 2, 0, 0, 2, 2, 0, 0, 0], [2, 2, 2, 2, 0, 2, 2, 2, 0, 2, 0, 2, 2, 0, 2, 0, 2, 2, 2, 2, 2, 2, 2, 2, 0, 2, 2, 0]]
/-- what a cell is: 0 .. 9 an object of that class, 10 ints, 11 longs, 12 rows of Sheets, 13 of Texts -/
def kd (k : Nat) : Nat := kdL.getD k 99
/-- how many fields or elements -/
def ln (k : Nat) : Nat := lnL.getD k 0
/-- the cell that a place refers to, once and for all -/
def rt (k j : Nat) : Nat := (rtL.getD k []).getD j 0
/-- what a field of a class holds: 0 an int, 1 a long, 2 a reference that stays, 3 one that changes -/
def fk (c j : Nat) : Nat := (fkL.getD c []).getD j 0
def iln (a : Nat) : Nat := if kd a = 10 then ln a else 0
def lln (a : Nat) : Nat := if kd a = 11 then ln a else 0
def rln (a : Nat) : Nat := if kd a = 12 then ln a else if kd a = 13 then ln a else 0
/-- the world's contents: ints, longs, references that change, by cell and place -/
abbrev Hp : Type := (Nat → Nat → Int32) × (Nat → Nat → Int64) × (Nat → Nat → Nat)
def up2 {α : Type} (f : Nat → Nat → α) (k j : Nat) (v : α) : Nat → Nat → α := fun a b => if a = k then (if b = j then v else f a b) else f a b
def wI (σ : Hp) (k j : Nat) (v : Int32) : Hp := (up2 σ.1 k j v, σ.2)
def wL (σ : Hp) (k j : Nat) (v : Int64) : Hp := (σ.1, up2 σ.2.1 k j v, σ.2.2)
def wN (σ : Hp) (k j : Nat) (v : Nat) : Hp := (σ.1, σ.2.1, up2 σ.2.2 k j v)
def wR (σ : Hp) (k : Nat) (f : Nat → Int32) : Hp := (fun a => if a = k then f else σ.1 a, σ.2)
/-- where the world lies: addresses, classes, the rows' classes -/
abbrev GT : Type := (Nat → Nat) × va_G × (Nat → ClassId)
def fv (G : GT) (σ : Hp) (k j : Nat) : Value := if fk (kd k) j = 0 then .int (σ.1 k j) else if fk (kd k) j = 1 then .long (σ.2.1 k j) else if fk (kd k) j = 2 then .ref (G.1 (rt k j)) else .ref (G.1 (σ.2.2 k j))
def ce (G : GT) (σ : Hp) (k : Nat) : va_E :=
  if kd k < 10 then .inr (kd k, (List.range (ln k)).map (fv G σ k))
  else if kd k = 10 then .inl (G.2.2 0, ln k, .inl (σ.1 k))
  else if kd k = 11 then .inl (G.2.2 1, ln k, .inr (.inl (σ.2.1 k)))
  else if kd k = 12 then .inl (G.2.2 2, ln k, .inr (.inr (.inr (.inr (fun j => some (G.1 (rt k j)))))))
  else .inl (G.2.2 3, ln k, .inr (.inr (.inr (.inr (fun j => some (G.1 (rt k j)))))))
def wl (G : GT) (σ : Hp) : va_W := (List.range 93).map (fun k => (G.1 k, ce G σ k))
abbrev tys (G : GT) : List (ClassId × FieldType) := [(G.2.2 0, .int), (G.2.2 1, .long), (G.2.2 2, .object RX4), (G.2.2 3, .object RX7)]
def AA (G : GT) : Nat → Prop := fun q => ∃ k, k < 93 ∧ q = G.1 k
def GOK (G : GT) : Prop := ∀ i j : Nat, i < 93 → j < 93 → G.1 i = G.1 j → i = j
theorem kd_lt {k : Nat} (h : kd k ≠ 99) : k < 93 := by
  rcases Nat.lt_or_ge k 93 with q | q
  · exact q
  · exact absurd (by
      show kdL.getD k 99 = 99
      rw [List.getD_eq_getElem?_getD, List.getElem?_eq_none (by exact q)]; rfl) h
theorem shp_ok : ∀ k, k < 93 → kd k < 10 → (vwCl[kd k]?).map (fun r => r.2.2) = some (ln k) := by decide +kernel
theorem wl_get {G : GT} {σ : Hp} {k : Nat} (h : k < 93) : (wl G σ)[k]? = some (G.1 k, ce G σ k) := by
  simp [wl, h]
theorem wl_set {G : GT} {σ σ' : Hp} {k : Nat} {e' : va_E} (h1 : ce G σ' k = e') (h2 : ∀ j, j ≠ k → ce G σ' j = ce G σ j) : (wl G σ).set k (G.1 k, e') = wl G σ' := by
  apply List.ext_getElem?
  intro i
  by_cases hik : i = k
  · subst hik
    by_cases hk : i < 93
    · rw [List.getElem?_set_self (by simp [wl, hk]), wl_get hk, h1]
    · rw [List.getElem?_eq_none (by simp [wl]; omega), List.getElem?_eq_none (by simp [wl]; omega)]
  · rw [List.getElem?_set_ne (fun h => hik h.symm)]
    by_cases hi : i < 93
    · rw [wl_get hi, wl_get hi, h2 i hik]
    · rw [List.getElem?_eq_none (by simp [wl]; omega), List.getElem?_eq_none (by simp [wl]; omega)]
theorem wl_D {G : GT} {σ : Hp} (h : GOK G) : va_D (AA G) (wl G σ) := by
  have key : ∀ (i : Nat) (p : Nat × va_E), (wl G σ)[i]? = some p → i < 93 ∧ p.1 = G.1 i := by
    intro i p hp
    by_cases hi : i < 93
    · rw [wl_get hi] at hp
      cases hp
      exact ⟨hi, rfl⟩
    · rw [List.getElem?_eq_none (by simp [wl]; omega)] at hp
      cases hp
  refine ⟨fun i j p q hi hj e => ?_, fun k q hk => ?_⟩
  · obtain ⟨a1, a2⟩ := key i p hi
    obtain ⟨b1, b2⟩ := key j q hj
    exact h i j a1 b1 (by rw [← a2, ← b2]; exact e)
  · obtain ⟨a1, a2⟩ := key k q hk
    exact ⟨k, a1, a2⟩
theorem ce_congr {G : GT} {σ σ' : Hp} {k : Nat} (h1 : σ'.1 k = σ.1 k) (h2 : σ'.2.1 k = σ.2.1 k) (h3 : σ'.2.2 k = σ.2.2 k) : ce G σ' k = ce G σ k := by
  have h : fv G σ' k = fv G σ k := by
    funext j
    simp only [fv, h1, h2, h3]
  simp only [ce, h, h1, h2]
theorem up2_row {α : Type} (f : Nat → Nat → α) (k j : Nat) (v : α) : up2 f k j v k = fun b => if b = j then v else f k b := by
  funext b
  simp [up2]
theorem up2_ne {α : Type} (f : Nat → Nat → α) {k a : Nat} (j : Nat) (v : α) (h : a ≠ k) : up2 f k j v a = f a := by
  funext b
  simp [up2, h]
/-- the tables hold -/
def TBl (U : State) : Prop := ∀ w ∈ tb, w.before #[] U = true
theorem tb_on {w : Cond} (h : w ∈ tb) : w.onTables = true := by
  have h2 := (List.mem_filter.mp h).2
  simp only [okW, Bool.and_eq_true] at h2
  exact h2.1
theorem TBl.use {U : State} (h : TBl U) {args : Array Value} {w : Cond} (hw : w ∈ tb) : w.before args U = true := va_Nw.use (tb_on hw) (h w hw)
theorem TBl.same {u U : State} (h : u.vm = U.vm) (hZ : TBl u) : TBl U := fun w hw => va_Nw.same (tb_on hw) h (hZ w hw)
theorem nestW {w : Cond} (h : isNestW w = true) : ∃ a i x q, w = .methodLinkNest a i x q := by
  cases w <;> first | exact ⟨_, _, _, _, rfl⟩ | (simp [isNestW] at h)
theorem TBl.warm {s U : State} (hW : s.WarmedH U.vm) (hZ : TBl s) : TBl U := by
  intro w hw
  have h2 := (List.mem_filter.mp hw).2
  have hb := hZ w hw
  simp only [okW, Bool.and_eq_true, Bool.or_eq_true] at h2
  rcases h2.2 with h | h
  · exact word_at hW (Or.inl (by rw [h2.1, h]; rfl)) hb
  · obtain ⟨a, i, x, q, rfl⟩ := nestW h
    exact va_Nw.warmM hW hb
end
section
/-- the String constants of Text.signs: pool entries, texts, lengths, bytes -/
def skL : List (Nat × String) := [(62, "rl"), (64, "0123"), (66, "012"), (68, "abcdefghijkl"), (70, "thg"), (72, "123456789"), (74, "abcdefghijklmnopqrstuvwx"), (76, "012345")]
def lnS : List Nat := [2, 4, 3, 12, 3, 9, 24, 6]
def byS : List (List Int32) := [[114, 108], [48, 49, 50, 51], [48, 49, 50], [97, 98, 99, 100, 101, 102, 103, 104, 105, 106, 107, 108], [116, 104, 103], [49, 50, 51, 52, 53, 54, 55, 56, 57], [97, 98, 99, 100, 101, 102, 103, 104, 105, 106, 107, 108, 109, 110, 111, 112, 113, 114, 115, 116, 117, 118, 119, 120], [48, 49, 50, 51, 52, 53]]
def dtk (j : Nat) : Int32 := ([0, 6, 13, 23] : List Int32).getD j 0
/-- what lies outside the world and is never written: DIGEST_TICKS, the String constants -/
def KC (G : GT) (s : State) : Prop :=
  va_Z "TinDucks" "DIGEST_TICKS" "[I" (.ref (G.1 200)) (AA G) s s.heap ∧ va_T .int (G.1 200) 4 (fun j => .int (dtk j)) (AA G) s s.heap ∧ va_Z "java/lang/String" "COMPACT_STRINGS" "Z" (.int 1) (AA G) s s.heap ∧
  (∀ i : Nat, i < 8 → vk_R RX7 (skL.getD i (0, "")).1 (skL.getD i (0, "")).2 (G.1 (210 + i)) s) ∧ vk_S 8 lnS byS (fun i => G.1 (210 + i)) (fun i => G.1 (230 + i)) (AA G) s s.heap
def Ctx (G : GT) (s : State) : Prop := GOK G ∧ TBl s ∧ va_K G.2.1 vwCl (tys G) s ∧ KC G s
theorem Ctx.moved {G : GT} {s U : State} {H : Heap} {locs : List Loc} (hC : Ctx G s) (hS : va_S (AA G) s.heap H locs) (hU : U.heap = H) (hW : s.WarmedH U.vm) : Ctx G U := by
  obtain ⟨h1, h2, h3, k1, k2, k3, k4, k5⟩ := hC
  subst hU
  refine ⟨h1, h2.warm hW, h3.moved hW.alike, (k1.kept hS.2.1).moved hW.alike, (k2.kept hS.2.1).moved hW.alike, (k3.kept hS.2.1).moved hW.alike, fun i hi => (k4 i hi).warm hW, (k5.kept hS.2.1).moved hW.alike⟩
theorem Ctx.blind {G : GT} {U : State} {g : JFrame} {mk : MethodId} {a : Array Value} (h : Ctx G U) : Ctx G (U.calling g mk a) := by
  obtain ⟨h1, h2, h3, k1, k2, k3, k4, k5⟩ := h
  exact ⟨h1, TBl.same (u := U) (U := U.calling g mk a) rfl h2, va_K.moved (u := U) (U := U.calling g mk a) (Vm.Alike.refl U.vm) h3, va_Z.moved (u := U) (U := U.calling g mk a) (Vm.Alike.refl U.vm) k1, va_T.moved (u := U) (U := U.calling g mk a) (Vm.Alike.refl U.vm) k2, va_Z.moved (u := U) (U := U.calling g mk a) (Vm.Alike.refl U.vm) k3, fun i hi => vk_R.same (u := U) rfl (k4 i hi), vk_S.moved (u := U) (U := U.calling g mk a) (Vm.Alike.refl U.vm) k5⟩
def rmOf (M : MT) : Room := { frames := M.2.2.2.2.1, cells := 0, slots := 0, locals := M.2.2.2.2.2 }
/-- a method's end: its answer and the world's contents meet Q, nothing else has changed -/
def QQ (G : GT) (Q : Option Value → Hp → Prop) : Array Value → State → Outcome → State → Prop := fun _ st oc t => (∃ (v : Option Value) (σ : Hp), oc = .returned v ∧ Q v σ ∧ va_P G.2.1 vwCl (wl G σ) t.heap) ∧ va_F (AA G) st t
def Cx (G : GT) (M : MT) (p : Program) (s : State) (m : MethodId) (meth : Method) (c : Code) : Prop := p.tables.exec = Jvm.exec ∧ c.code = M.2.1 ∧ meth.sig.returnType = M.2.2.2.1 ∧ c.maxLocals = M.2.2.1 ∧ s.vm.findClass M.1.cls = some m.cls ∧ meth.locks = false ∧ Ctx G s
/-- in method M at pc, with these locals, this stack and contents: it comes to its end with Q -/
def WP (G : GT) (M : MT) (pc : Nat) (lv : List (Nat × Value)) (st : List Value) (σ : Hp) (Q : Option Value → Hp → Prop) : Prop :=
  ∀ (p : Program) (l : Launch) (e : Env) (s : State) (m : MethodId) (args : Array Value) (below : List Frame) (meth : Method) (c : Code) (H : Heap) (locs : List Loc) (ls : Array Slot), Cx G M p s m meth c → va_P G.2.1 vwCl (wl G σ) H → va_S (AA G) s.heap H locs → lv_has ls M.2.2.1 lv → W p l e (rmOf M) s m args below meth c H locs 0 0 (MQ below (QQ G Q) args s 0 0 (AA G)) (F0 m pc ls st)
/-- method M's contract at these arguments and contents -/
def CT (G : GT) (M : MT) (av : List Value) (σ : Hp) (Q : Option Value → Hp → Prop) : Prop := ∀ l : Launch, Met l M.1 [Cond.code M.1 M.2.1 M.2.2.1 M.2.2.2.1] (rmOf M) (va_Pc av (fun U => va_P G.2.1 vwCl (wl G σ) U.heap ∧ Ctx G U)) (QQ G Q) 0 0 (AA G)
theorem CT.of {G : GT} {M : MT} {av : List Value} {σ : Hp} {Q : Option Value → Hp → Prop} (hpl : plainName M.1.cls = true) (hav : (lg_sl av).length ≤ M.2.2.1) (h : WP G M 0 (lv_args 0 av) [] σ Q) : CT G M av σ Q := by
  intro l
  refine Met.ofW (cc := M.2.1) (maxL := M.2.2.1) (ret := M.2.2.2.1) hpl rfl ?_
  intro p e s m args below meth c s₁ B hml hv
  obtain ⟨rfl, hP, hC⟩ := hv
  rw [lg_entry_eq]
  exact h p l e s m _ below meth c s.heap [] _ ⟨B.exec, B.bytes, B.returns, hml, findClass_of_methodNamed B.named, B.notSynchronized, hC⟩ hP va_S.rf (lv_entry av hav)
theorem ac_nat : Cond.native arraycopyName ∈ tb := tin3 53 (by decide +kernel)
theorem ac_sta : Cond.static arraycopyName ∈ tb := tin3 52 (by decide +kernel)
theorem ac_ini : Cond.initialized "java/lang/System" ∈ tb := tin1 18 (by decide +kernel)
section WCALL
variable {p : Program} {l : Launch} {e : Env} {s : State} {m : MethodId} {args : Array Value} {below : List Frame} {meth : Method} {c : Code} {H : Heap} {locs : List Loc} {ls : Array Slot} {G : GT} {M Mc : MT} {pc : Nat} {lv : List (Nat × Value)} {st0 rest : List Value} {σ : Hp} {Q Q' : Option Value → Hp → Prop} {aa : Array Value}
theorem wp_after (hrun : va_Run p l e (rmOf M) s m args below meth c H locs 0 0 0 0 (F0 m pc ls st0) rest (QQ G Q' aa) (AA G)) (C : Cx G M p s m meth c) (hS : va_S (AA G) s.heap H locs) (hl : lv_has ls M.2.2.1 lv) (K : ∀ v τ, Q' v τ → WP G M (pc + 3) lv (v.toList ++ rest) τ Q) :
    W p l e (rmOf M) s m args below meth c H locs 0 0 (MQ below (QQ G Q) args s 0 0 (AA G)) (F0 m pc ls st0) := by
  intro T hT X
  obtain ⟨v, st₀, t, T', L, h0, X', hL, e1, e2, ⟨⟨v', τ, hv, hq, hP'⟩, hz, hk⟩, stp⟩ := hrun T hT X
  cases hv
  rw [h0] at hz hk
  obtain ⟨t2, a1, b1⟩ := K v τ hq p l e s m args below meth c T'.heap (locs ++ L) ls C (by rw [e1]; exact hP')
    ⟨Nat.le_trans hS.1 (by rw [e1]; exact hz), fun q h1 h2 => by rw [e1, hk q (Nat.lt_of_lt_of_le h1 hS.1) h2]; exact hS.2.1 q h1 h2, fun q hq => by
      rcases List.mem_append.mp hq with h | h
      · exact hS.2.2 q h
      · exact hL q h⟩ hl T' rfl X'
  exact ⟨t2, stp t2 a1, b1⟩
theorem wp_pre (C : Cx G M p s m meth c) (hP : va_P G.2.1 vwCl (wl G σ) H) (hS : va_S (AA G) s.heap H locs) (av : List Value) : FrameBlind (va_Pc av (fun U => va_P G.2.1 vwCl (wl G σ) U.heap ∧ Ctx G U)) ∧ ∀ U : State, U.heap = H → s.WarmedH U.vm → va_Pc av (fun U => va_P G.2.1 vwCl (wl G σ) U.heap ∧ Ctx G U) av.toArray U :=
  ⟨fun _ _ _ _ q => ⟨q.1, q.2.1, q.2.2.blind⟩, fun U hU hW => ⟨rfl, by rw [hU]; exact hP, Ctx.moved C.2.2.2.2.2.2 hS hU hW⟩⟩
end WCALL
end
section
section WROWS
variable {G : GT} {M : MT} {pc : Nat} {lv : List (Nat × Value)} {rest : List Value} {σ : Hp} {Q : Option Value → Hp → Prop}
theorem wr_iconst {n : Int} {v : Int32} (hdg : decode M.2.1 pc = .ok (.iconst n, 1)) (hv : Int32.ofInt n = v)     (k : WP G M (pc + 1) lv (.int v :: rest) σ Q) : WP G M pc lv (rest) σ Q := fun p l e s m a b me c H L ls C hP hS hl => lv_iconst C.1 C.2.1 hdg hv (k _ _ _ _ _ _ _ _ _ _ _ _ C hP hS hl)
theorem wr_bipush {n : Int} {v : Int32} (hdg : decode M.2.1 pc = .ok (.bipush n, 2)) (hv : (Int8.ofInt n).toInt32 = v)     (k : WP G M (pc + 2) lv (.int v :: rest) σ Q) : WP G M pc lv (rest) σ Q := fun p l e s m a b me c H L ls C hP hS hl => lv_bipush C.1 C.2.1 hdg hv (k _ _ _ _ _ _ _ _ _ _ _ _ C hP hS hl)
theorem wr_sipush {n : Int} {v : Int32} (hdg : decode M.2.1 pc = .ok (.sipush n, 3)) (hv : (Int16.ofInt n).toInt32 = v)     (k : WP G M (pc + 3) lv (.int v :: rest) σ Q) : WP G M pc lv (rest) σ Q := fun p l e s m a b me c H L ls C hP hS hl => lv_sipush C.1 C.2.1 hdg hv (k _ _ _ _ _ _ _ _ _ _ _ _ C hP hS hl)
theorem wr_lconst {n : Fin 2} {v : Int64} (hdg : decode M.2.1 pc = .ok (.lconst n, 1)) (hv : Int64.ofNat (n : Nat) = v)     (k : WP G M (pc + 1) lv (.long v :: rest) σ Q) : WP G M pc lv (rest) σ Q := fun p l e s m a b me c H L ls C hP hS hl => lv_lconst C.1 C.2.1 hdg hv (k _ _ _ _ _ _ _ _ _ _ _ _ C hP hS hl)
theorem wr_iadd {x y : Int32} (hdg : decode M.2.1 pc = .ok (.iadd, 1))      (k : WP G M (pc + 1) lv (.int (x + y) :: rest) σ Q) : WP G M pc lv (.int y :: .int x :: rest) σ Q := fun p l e s m a b me c H L ls C hP hS hl => lv_iadd C.1 C.2.1 hdg (k _ _ _ _ _ _ _ _ _ _ _ _ C hP hS hl)
theorem wr_isub {x y : Int32} (hdg : decode M.2.1 pc = .ok (.isub, 1))      (k : WP G M (pc + 1) lv (.int (x - y) :: rest) σ Q) : WP G M pc lv (.int y :: .int x :: rest) σ Q := fun p l e s m a b me c H L ls C hP hS hl => lv_isub C.1 C.2.1 hdg (k _ _ _ _ _ _ _ _ _ _ _ _ C hP hS hl)
theorem wr_imul {x y : Int32} (hdg : decode M.2.1 pc = .ok (.imul, 1))      (k : WP G M (pc + 1) lv (.int (x * y) :: rest) σ Q) : WP G M pc lv (.int y :: .int x :: rest) σ Q := fun p l e s m a b me c H L ls C hP hS hl => lv_imul C.1 C.2.1 hdg (k _ _ _ _ _ _ _ _ _ _ _ _ C hP hS hl)
theorem wr_iand {x y : Int32} (hdg : decode M.2.1 pc = .ok (.iand, 1))      (k : WP G M (pc + 1) lv (.int (x &&& y) :: rest) σ Q) : WP G M pc lv (.int y :: .int x :: rest) σ Q := fun p l e s m a b me c H L ls C hP hS hl => lv_iand C.1 C.2.1 hdg (k _ _ _ _ _ _ _ _ _ _ _ _ C hP hS hl)
theorem wr_ior {x y : Int32} (hdg : decode M.2.1 pc = .ok (.ior, 1))      (k : WP G M (pc + 1) lv (.int (x ||| y) :: rest) σ Q) : WP G M pc lv (.int y :: .int x :: rest) σ Q := fun p l e s m a b me c H L ls C hP hS hl => lv_ior C.1 C.2.1 hdg (k _ _ _ _ _ _ _ _ _ _ _ _ C hP hS hl)
theorem wr_ixor {x y : Int32} (hdg : decode M.2.1 pc = .ok (.ixor, 1))      (k : WP G M (pc + 1) lv (.int (x ^^^ y) :: rest) σ Q) : WP G M pc lv (.int y :: .int x :: rest) σ Q := fun p l e s m a b me c H L ls C hP hS hl => lv_ixor C.1 C.2.1 hdg (k _ _ _ _ _ _ _ _ _ _ _ _ C hP hS hl)
theorem wr_idiv {x y : Int32} (hdg : decode M.2.1 pc = .ok (.idiv, 1)) (hne : ¬ y = 0)     (k : WP G M (pc + 1) lv (.int (x / y) :: rest) σ Q) : WP G M pc lv (.int y :: .int x :: rest) σ Q := fun p l e s m a b me c H L ls C hP hS hl => lv_idiv C.1 C.2.1 hdg hne (k _ _ _ _ _ _ _ _ _ _ _ _ C hP hS hl)
theorem wr_irem {x y : Int32} (hdg : decode M.2.1 pc = .ok (.irem, 1)) (hne : ¬ y = 0)     (k : WP G M (pc + 1) lv (.int (x - x / y * y) :: rest) σ Q) : WP G M pc lv (.int y :: .int x :: rest) σ Q := fun p l e s m a b me c H L ls C hP hS hl => lv_irem C.1 C.2.1 hdg hne (k _ _ _ _ _ _ _ _ _ _ _ _ C hP hS hl)
theorem wr_ineg {x : Int32} (hdg : decode M.2.1 pc = .ok (.ineg, 1))      (k : WP G M (pc + 1) lv (.int (-x) :: rest) σ Q) : WP G M pc lv (.int x :: rest) σ Q := fun p l e s m a b me c H L ls C hP hS hl => lv_ineg C.1 C.2.1 hdg (k _ _ _ _ _ _ _ _ _ _ _ _ C hP hS hl)
theorem wr_ladd {x y : Int64} (hdg : decode M.2.1 pc = .ok (.ladd, 1))      (k : WP G M (pc + 1) lv (.long (x + y) :: rest) σ Q) : WP G M pc lv (.long y :: .long x :: rest) σ Q := fun p l e s m a b me c H L ls C hP hS hl => lv_ladd C.1 C.2.1 hdg (k _ _ _ _ _ _ _ _ _ _ _ _ C hP hS hl)
theorem wr_lsub {x y : Int64} (hdg : decode M.2.1 pc = .ok (.lsub, 1))      (k : WP G M (pc + 1) lv (.long (x - y) :: rest) σ Q) : WP G M pc lv (.long y :: .long x :: rest) σ Q := fun p l e s m a b me c H L ls C hP hS hl => lv_lsub C.1 C.2.1 hdg (k _ _ _ _ _ _ _ _ _ _ _ _ C hP hS hl)
theorem wr_lmul {x y : Int64} (hdg : decode M.2.1 pc = .ok (.lmul, 1))      (k : WP G M (pc + 1) lv (.long (x * y) :: rest) σ Q) : WP G M pc lv (.long y :: .long x :: rest) σ Q := fun p l e s m a b me c H L ls C hP hS hl => lv_lmul C.1 C.2.1 hdg (k _ _ _ _ _ _ _ _ _ _ _ _ C hP hS hl)
theorem wr_land {x y : Int64} (hdg : decode M.2.1 pc = .ok (.land, 1))      (k : WP G M (pc + 1) lv (.long (x &&& y) :: rest) σ Q) : WP G M pc lv (.long y :: .long x :: rest) σ Q := fun p l e s m a b me c H L ls C hP hS hl => lv_land C.1 C.2.1 hdg (k _ _ _ _ _ _ _ _ _ _ _ _ C hP hS hl)
theorem wr_ldiv {x y : Int64} (hdg : decode M.2.1 pc = .ok (.ldiv, 1)) (hne : ¬ y = 0)     (k : WP G M (pc + 1) lv (.long (x / y) :: rest) σ Q) : WP G M pc lv (.long y :: .long x :: rest) σ Q := fun p l e s m a b me c H L ls C hP hS hl => lv_ldiv C.1 C.2.1 hdg hne (k _ _ _ _ _ _ _ _ _ _ _ _ C hP hS hl)
theorem wr_lrem {x y : Int64} (hdg : decode M.2.1 pc = .ok (.lrem, 1)) (hne : ¬ y = 0)     (k : WP G M (pc + 1) lv (.long (x - x / y * y) :: rest) σ Q) : WP G M pc lv (.long y :: .long x :: rest) σ Q := fun p l e s m a b me c H L ls C hP hS hl => lv_lrem C.1 C.2.1 hdg hne (k _ _ _ _ _ _ _ _ _ _ _ _ C hP hS hl)
theorem wr_ishl {x y : Int32} (hdg : decode M.2.1 pc = .ok (.ishl, 1))      (k : WP G M (pc + 1) lv (.int (x <<< (y &&& 31)) :: rest) σ Q) : WP G M pc lv (.int y :: .int x :: rest) σ Q := fun p l e s m a b me c H L ls C hP hS hl => lv_ishl C.1 C.2.1 hdg (k _ _ _ _ _ _ _ _ _ _ _ _ C hP hS hl)
theorem wr_ishr {x y : Int32} (hdg : decode M.2.1 pc = .ok (.ishr, 1))      (k : WP G M (pc + 1) lv (.int (x >>> (y &&& 31)) :: rest) σ Q) : WP G M pc lv (.int y :: .int x :: rest) σ Q := fun p l e s m a b me c H L ls C hP hS hl => lv_ishr C.1 C.2.1 hdg (k _ _ _ _ _ _ _ _ _ _ _ _ C hP hS hl)
theorem wr_i2l {x : Int32} {v : Int64} (hdg : decode M.2.1 pc = .ok (.i2l, 1)) (hv : x.toInt64 = v)     (k : WP G M (pc + 1) lv (.long v :: rest) σ Q) : WP G M pc lv (.int x :: rest) σ Q := fun p l e s m a b me c H L ls C hP hS hl => lv_i2l C.1 C.2.1 hdg hv (k _ _ _ _ _ _ _ _ _ _ _ _ C hP hS hl)
theorem wr_l2i {x : Int64} {v : Int32} (hdg : decode M.2.1 pc = .ok (.l2i, 1)) (hv : x.toInt32 = v)     (k : WP G M (pc + 1) lv (.int v :: rest) σ Q) : WP G M pc lv (.long x :: rest) σ Q := fun p l e s m a b me c H L ls C hP hS hl => lv_l2i C.1 C.2.1 hdg hv (k _ _ _ _ _ _ _ _ _ _ _ _ C hP hS hl)
theorem wr_i2b {x : Int32} {v : Int32} (hdg : decode M.2.1 pc = .ok (.i2b, 1)) (hv : x.toInt8.toInt32 = v)     (k : WP G M (pc + 1) lv (.int v :: rest) σ Q) : WP G M pc lv (.int x :: rest) σ Q := fun p l e s m a b me c H L ls C hP hS hl => lv_i2b C.1 C.2.1 hdg hv (k _ _ _ _ _ _ _ _ _ _ _ _ C hP hS hl)
theorem wr_i2s {x : Int32} {v : Int32} (hdg : decode M.2.1 pc = .ok (.i2s, 1)) (hv : x.toInt16.toInt32 = v)     (k : WP G M (pc + 1) lv (.int v :: rest) σ Q) : WP G M pc lv (.int x :: rest) σ Q := fun p l e s m a b me c H L ls C hP hS hl => lv_i2s C.1 C.2.1 hdg hv (k _ _ _ _ _ _ _ _ _ _ _ _ C hP hS hl)
theorem wr_i2c {x : Int32} {v : Int32} (hdg : decode M.2.1 pc = .ok (.i2c, 1)) (hv : (x.toUInt32 % 65536).toInt32 = v)     (k : WP G M (pc + 1) lv (.int v :: rest) σ Q) : WP G M pc lv (.int x :: rest) σ Q := fun p l e s m a b me c H L ls C hP hS hl => lv_i2c C.1 C.2.1 hdg hv (k _ _ _ _ _ _ _ _ _ _ _ _ C hP hS hl)
theorem wr_iushr {x y v : Int32} (hdg : decode M.2.1 pc = .ok (.iushr, 1)) (hv : (x.toUInt32 >>> (y.toUInt32 &&& Int32.toUInt32 31)).toInt32 = v)     (k : WP G M (pc + 1) lv (.int v :: rest) σ Q) : WP G M pc lv (.int y :: .int x :: rest) σ Q := fun p l e s m a b me c H L ls C hP hS hl => lv_iushr C.1 C.2.1 hdg hv (k _ _ _ _ _ _ _ _ _ _ _ _ C hP hS hl)
theorem wr_lshl {x v : Int64} {y : Int32} (hdg : decode M.2.1 pc = .ok (.lshl, 1)) (hv : x <<< (y.toInt64 &&& 63) = v)     (k : WP G M (pc + 1) lv (.long v :: rest) σ Q) : WP G M pc lv (.int y :: .long x :: rest) σ Q := fun p l e s m a b me c H L ls C hP hS hl => lv_lshl C.1 C.2.1 hdg hv (k _ _ _ _ _ _ _ _ _ _ _ _ C hP hS hl)
theorem wr_lshr {x v : Int64} {y : Int32} (hdg : decode M.2.1 pc = .ok (.lshr, 1)) (hv : x >>> (y.toInt64 &&& 63) = v)     (k : WP G M (pc + 1) lv (.long v :: rest) σ Q) : WP G M pc lv (.int y :: .long x :: rest) σ Q := fun p l e s m a b me c H L ls C hP hS hl => lv_lshr C.1 C.2.1 hdg hv (k _ _ _ _ _ _ _ _ _ _ _ _ C hP hS hl)
theorem wr_dup {va : Value} (hdg : decode M.2.1 pc = .ok (.dup, 1)) (hva : va.category = 1)     (k : WP G M (pc + 1) lv (va :: va :: rest) σ Q) : WP G M pc lv (va :: rest) σ Q := fun p l e s m a b me c H L ls C hP hS hl => lv_dup C.1 C.2.1 hdg hva (k _ _ _ _ _ _ _ _ _ _ _ _ C hP hS hl)
theorem wr_pop {va : Value} (hdg : decode M.2.1 pc = .ok (.pop, 1)) (hva : va.category = 1)     (k : WP G M (pc + 1) lv (rest) σ Q) : WP G M pc lv (va :: rest) σ Q := fun p l e s m a b me c H L ls C hP hS hl => lv_pop C.1 C.2.1 hdg hva (k _ _ _ _ _ _ _ _ _ _ _ _ C hP hS hl)
theorem wr_dup2_11 {va vb : Value} (hdg : decode M.2.1 pc = .ok (.dup2, 1)) (hva : va.category = 1) (hvb : vb.category = 1)     (k : WP G M (pc + 1) lv (va :: vb :: va :: vb :: rest) σ Q) : WP G M pc lv (va :: vb :: rest) σ Q := fun p l e s m a b me c H L ls C hP hS hl => lv_dup2_11 C.1 C.2.1 hdg hva hvb (k _ _ _ _ _ _ _ _ _ _ _ _ C hP hS hl)
theorem wr_goto {off : Int} {tgt : Nat} (hdg : decode M.2.1 pc = .ok (.goto off, 3)) (ht : (pc : Int) + off = (tgt : Int)) (k : WP G M tgt lv rest σ Q) : WP G M pc lv rest σ Q := fun p l e s m a b me c H L ls C hP hS hl => lv_goto C.1 C.2.1 hdg ht (k _ _ _ _ _ _ _ _ _ _ _ _ C hP hS hl)
theorem wr_if_eq {x : Int32} {off : Int} {tgt : Nat} (hdg : decode M.2.1 pc = .ok (.ifCond .eq off, 3)) (ht : (pc : Int) + off = (tgt : Int))     (kt : x = 0 → WP G M tgt lv rest σ Q) (kf : ¬ x = 0 → WP G M (pc + 3) lv rest σ Q) : WP G M pc lv (.int x :: rest) σ Q := fun p l e s m a b me c H L ls C hP hS hl => lv_if_eq C.1 C.2.1 hdg ht (fun q => kt q _ _ _ _ _ _ _ _ _ _ _ _ C hP hS hl) (fun q => kf q _ _ _ _ _ _ _ _ _ _ _ _ C hP hS hl)
theorem wr_if_ne {x : Int32} {off : Int} {tgt : Nat} (hdg : decode M.2.1 pc = .ok (.ifCond .ne off, 3)) (ht : (pc : Int) + off = (tgt : Int))     (kt : ¬ x = 0 → WP G M tgt lv rest σ Q) (kf : x = 0 → WP G M (pc + 3) lv rest σ Q) : WP G M pc lv (.int x :: rest) σ Q := fun p l e s m a b me c H L ls C hP hS hl => lv_if_ne C.1 C.2.1 hdg ht (fun q => kt q _ _ _ _ _ _ _ _ _ _ _ _ C hP hS hl) (fun q => kf q _ _ _ _ _ _ _ _ _ _ _ _ C hP hS hl)
theorem wr_if_lt {x : Int32} {off : Int} {tgt : Nat} (hdg : decode M.2.1 pc = .ok (.ifCond .lt off, 3)) (ht : (pc : Int) + off = (tgt : Int))     (kt : x < 0 → WP G M tgt lv rest σ Q) (kf : ¬ x < 0 → WP G M (pc + 3) lv rest σ Q) : WP G M pc lv (.int x :: rest) σ Q := fun p l e s m a b me c H L ls C hP hS hl => lv_if_lt C.1 C.2.1 hdg ht (fun q => kt q _ _ _ _ _ _ _ _ _ _ _ _ C hP hS hl) (fun q => kf q _ _ _ _ _ _ _ _ _ _ _ _ C hP hS hl)
theorem wr_if_ge {x : Int32} {off : Int} {tgt : Nat} (hdg : decode M.2.1 pc = .ok (.ifCond .ge off, 3)) (ht : (pc : Int) + off = (tgt : Int))     (kt : 0 ≤ x → WP G M tgt lv rest σ Q) (kf : ¬ 0 ≤ x → WP G M (pc + 3) lv rest σ Q) : WP G M pc lv (.int x :: rest) σ Q := fun p l e s m a b me c H L ls C hP hS hl => lv_if_ge C.1 C.2.1 hdg ht (fun q => kt q _ _ _ _ _ _ _ _ _ _ _ _ C hP hS hl) (fun q => kf q _ _ _ _ _ _ _ _ _ _ _ _ C hP hS hl)
theorem wr_if_gt {x : Int32} {off : Int} {tgt : Nat} (hdg : decode M.2.1 pc = .ok (.ifCond .gt off, 3)) (ht : (pc : Int) + off = (tgt : Int))     (kt : 0 < x → WP G M tgt lv rest σ Q) (kf : ¬ 0 < x → WP G M (pc + 3) lv rest σ Q) : WP G M pc lv (.int x :: rest) σ Q := fun p l e s m a b me c H L ls C hP hS hl => lv_if_gt C.1 C.2.1 hdg ht (fun q => kt q _ _ _ _ _ _ _ _ _ _ _ _ C hP hS hl) (fun q => kf q _ _ _ _ _ _ _ _ _ _ _ _ C hP hS hl)
theorem wr_if_le {x : Int32} {off : Int} {tgt : Nat} (hdg : decode M.2.1 pc = .ok (.ifCond .le off, 3)) (ht : (pc : Int) + off = (tgt : Int))     (kt : x ≤ 0 → WP G M tgt lv rest σ Q) (kf : ¬ x ≤ 0 → WP G M (pc + 3) lv rest σ Q) : WP G M pc lv (.int x :: rest) σ Q := fun p l e s m a b me c H L ls C hP hS hl => lv_if_le C.1 C.2.1 hdg ht (fun q => kt q _ _ _ _ _ _ _ _ _ _ _ _ C hP hS hl) (fun q => kf q _ _ _ _ _ _ _ _ _ _ _ _ C hP hS hl)
theorem wr_icmp_eq {x y : Int32} {off : Int} {tgt : Nat} (hdg : decode M.2.1 pc = .ok (.if_icmp .eq off, 3)) (ht : (pc : Int) + off = (tgt : Int))     (kt : x = y → WP G M tgt lv rest σ Q) (kf : ¬ x = y → WP G M (pc + 3) lv rest σ Q) : WP G M pc lv (.int y :: .int x :: rest) σ Q := fun p l e s m a b me c H L ls C hP hS hl => lv_icmp_eq C.1 C.2.1 hdg ht (fun q => kt q _ _ _ _ _ _ _ _ _ _ _ _ C hP hS hl) (fun q => kf q _ _ _ _ _ _ _ _ _ _ _ _ C hP hS hl)
theorem wr_icmp_ne {x y : Int32} {off : Int} {tgt : Nat} (hdg : decode M.2.1 pc = .ok (.if_icmp .ne off, 3)) (ht : (pc : Int) + off = (tgt : Int))     (kt : ¬ x = y → WP G M tgt lv rest σ Q) (kf : x = y → WP G M (pc + 3) lv rest σ Q) : WP G M pc lv (.int y :: .int x :: rest) σ Q := fun p l e s m a b me c H L ls C hP hS hl => lv_icmp_ne C.1 C.2.1 hdg ht (fun q => kt q _ _ _ _ _ _ _ _ _ _ _ _ C hP hS hl) (fun q => kf q _ _ _ _ _ _ _ _ _ _ _ _ C hP hS hl)
theorem wr_icmp_lt {x y : Int32} {off : Int} {tgt : Nat} (hdg : decode M.2.1 pc = .ok (.if_icmp .lt off, 3)) (ht : (pc : Int) + off = (tgt : Int))     (kt : x < y → WP G M tgt lv rest σ Q) (kf : ¬ x < y → WP G M (pc + 3) lv rest σ Q) : WP G M pc lv (.int y :: .int x :: rest) σ Q := fun p l e s m a b me c H L ls C hP hS hl => lv_icmp_lt C.1 C.2.1 hdg ht (fun q => kt q _ _ _ _ _ _ _ _ _ _ _ _ C hP hS hl) (fun q => kf q _ _ _ _ _ _ _ _ _ _ _ _ C hP hS hl)
theorem wr_icmp_ge {x y : Int32} {off : Int} {tgt : Nat} (hdg : decode M.2.1 pc = .ok (.if_icmp .ge off, 3)) (ht : (pc : Int) + off = (tgt : Int))     (kt : y ≤ x → WP G M tgt lv rest σ Q) (kf : ¬ y ≤ x → WP G M (pc + 3) lv rest σ Q) : WP G M pc lv (.int y :: .int x :: rest) σ Q := fun p l e s m a b me c H L ls C hP hS hl => lv_icmp_ge C.1 C.2.1 hdg ht (fun q => kt q _ _ _ _ _ _ _ _ _ _ _ _ C hP hS hl) (fun q => kf q _ _ _ _ _ _ _ _ _ _ _ _ C hP hS hl)
theorem wr_icmp_gt {x y : Int32} {off : Int} {tgt : Nat} (hdg : decode M.2.1 pc = .ok (.if_icmp .gt off, 3)) (ht : (pc : Int) + off = (tgt : Int))     (kt : y < x → WP G M tgt lv rest σ Q) (kf : ¬ y < x → WP G M (pc + 3) lv rest σ Q) : WP G M pc lv (.int y :: .int x :: rest) σ Q := fun p l e s m a b me c H L ls C hP hS hl => lv_icmp_gt C.1 C.2.1 hdg ht (fun q => kt q _ _ _ _ _ _ _ _ _ _ _ _ C hP hS hl) (fun q => kf q _ _ _ _ _ _ _ _ _ _ _ _ C hP hS hl)
theorem wr_icmp_le {x y : Int32} {off : Int} {tgt : Nat} (hdg : decode M.2.1 pc = .ok (.if_icmp .le off, 3)) (ht : (pc : Int) + off = (tgt : Int))     (kt : x ≤ y → WP G M tgt lv rest σ Q) (kf : ¬ x ≤ y → WP G M (pc + 3) lv rest σ Q) : WP G M pc lv (.int y :: .int x :: rest) σ Q := fun p l e s m a b me c H L ls C hP hS hl => lv_icmp_le C.1 C.2.1 hdg ht (fun q => kt q _ _ _ _ _ _ _ _ _ _ _ _ C hP hS hl) (fun q => kf q _ _ _ _ _ _ _ _ _ _ _ _ C hP hS hl)
theorem wr_sub {lv' : List (Nat × Value)} (ks : List Nat) (hk : lv_pick lv ks = lv') (k : WP G M pc lv' rest σ Q) : WP G M pc lv rest σ Q := fun p l e s m a b me c H L ls C hP hS hl => k _ _ _ _ _ _ _ _ _ _ _ _ C hP hS (lv_sub hl ks hk)
theorem wr_iload_n {i : Fin 4} {x : Int32} (hdg : decode M.2.1 pc = .ok (.iload_n i, 1)) (j : Nat) (hj : lv[j]? = some (i.1, .int x)) (k : WP G M (pc + 1) lv (.int x :: rest) σ Q) : WP G M pc lv rest σ Q := fun p l e s m a b me c H L ls C hP hS hl => lv_iload_n C.1 C.2.1 hdg rfl (lv_at hl j hj) (k _ _ _ _ _ _ _ _ _ _ _ _ C hP hS hl)
theorem wr_iload {i : Nat} {x : Int32} (hdg : decode M.2.1 pc = .ok (.iload i, 2)) (j : Nat) (hj : lv[j]? = some (i, .int x)) (k : WP G M (pc + 2) lv (.int x :: rest) σ Q) : WP G M pc lv rest σ Q := fun p l e s m a b me c H L ls C hP hS hl => lv_iload C.1 C.2.1 hdg (lv_at hl j hj) (k _ _ _ _ _ _ _ _ _ _ _ _ C hP hS hl)
theorem wr_lload_n {i : Fin 4} {x : Int64} (hdg : decode M.2.1 pc = .ok (.lload_n i, 1)) (j : Nat) (hj : lv[j]? = some (i.1, .long x)) (k : WP G M (pc + 1) lv (.long x :: rest) σ Q) : WP G M pc lv rest σ Q := fun p l e s m a b me c H L ls C hP hS hl => lv_lload_n C.1 C.2.1 hdg rfl (lv_at hl j hj) (k _ _ _ _ _ _ _ _ _ _ _ _ C hP hS hl)
theorem wr_lload {i : Nat} {x : Int64} (hdg : decode M.2.1 pc = .ok (.lload i, 2)) (j : Nat) (hj : lv[j]? = some (i, .long x)) (k : WP G M (pc + 2) lv (.long x :: rest) σ Q) : WP G M pc lv rest σ Q := fun p l e s m a b me c H L ls C hP hS hl => lv_lload C.1 C.2.1 hdg (lv_at hl j hj) (k _ _ _ _ _ _ _ _ _ _ _ _ C hP hS hl)
theorem wr_aload_n {i : Fin 4} {x : Nat} (hdg : decode M.2.1 pc = .ok (.aload_n i, 1)) (j : Nat) (hj : lv[j]? = some (i.1, .ref x)) (k : WP G M (pc + 1) lv (.ref x :: rest) σ Q) : WP G M pc lv rest σ Q := fun p l e s m a b me c H L ls C hP hS hl => lv_aload_n C.1 C.2.1 hdg rfl (lv_at hl j hj) (k _ _ _ _ _ _ _ _ _ _ _ _ C hP hS hl)
theorem wr_aload {i : Nat} {x : Nat} (hdg : decode M.2.1 pc = .ok (.aload i, 2)) (j : Nat) (hj : lv[j]? = some (i, .ref x)) (k : WP G M (pc + 2) lv (.ref x :: rest) σ Q) : WP G M pc lv rest σ Q := fun p l e s m a b me c H L ls C hP hS hl => lv_aload C.1 C.2.1 hdg (lv_at hl j hj) (k _ _ _ _ _ _ _ _ _ _ _ _ C hP hS hl)
theorem wr_istore_n {i : Fin 4} {x : Int32} {lv' : List (Nat × Value)} (hdg : decode M.2.1 pc = .ok (.istore_n i, 1)) (hn : i.1 < M.2.2.1) (hv : (i.1, Value.int x) :: lv.filter (fun q => !(q.1 == i.1) && !(q.1 + 1 == i.1 && q.2.category == 2)) = lv') (k : WP G M (pc + 1) lv' rest σ Q) : WP G M pc lv (.int x :: rest) σ Q := fun p l e s m a b me c H L ls C hP hS hl => lv_istore_n C.1 C.2.1 hdg rfl hl hn hv (fun ls hl => k _ _ _ _ _ _ _ _ _ _ _ _ C hP hS hl)
theorem wr_istore {i : Nat} {x : Int32} {lv' : List (Nat × Value)} (hdg : decode M.2.1 pc = .ok (.istore i, 2)) (hn : i < M.2.2.1) (hv : (i, Value.int x) :: lv.filter (fun q => !(q.1 == i) && !(q.1 + 1 == i && q.2.category == 2)) = lv') (k : WP G M (pc + 2) lv' rest σ Q) : WP G M pc lv (.int x :: rest) σ Q := fun p l e s m a b me c H L ls C hP hS hl => lv_istore C.1 C.2.1 hdg hl hn hv (fun ls hl => k _ _ _ _ _ _ _ _ _ _ _ _ C hP hS hl)
theorem wr_lstore_n {i : Fin 4} {x : Int64} {lv' : List (Nat × Value)} (hdg : decode M.2.1 pc = .ok (.lstore_n i, 1)) (hn : i.1 + 1 < M.2.2.1) (hv : (i.1, Value.long x) :: lv.filter (fun q => !(q.1 == i.1) && (!(q.1 == i.1 + 1) && !(q.1 + 1 == i.1 && q.2.category == 2))) = lv') (k : WP G M (pc + 1) lv' rest σ Q) : WP G M pc lv (.long x :: rest) σ Q := fun p l e s m a b me c H L ls C hP hS hl => lv_lstore_n C.1 C.2.1 hdg rfl hl hn hv (fun ls hl => k _ _ _ _ _ _ _ _ _ _ _ _ C hP hS hl)
theorem wr_lstore {i : Nat} {x : Int64} {lv' : List (Nat × Value)} (hdg : decode M.2.1 pc = .ok (.lstore i, 2)) (hn : i + 1 < M.2.2.1) (hv : (i, Value.long x) :: lv.filter (fun q => !(q.1 == i) && (!(q.1 == i + 1) && !(q.1 + 1 == i && q.2.category == 2))) = lv') (k : WP G M (pc + 2) lv' rest σ Q) : WP G M pc lv (.long x :: rest) σ Q := fun p l e s m a b me c H L ls C hP hS hl => lv_lstore C.1 C.2.1 hdg hl hn hv (fun ls hl => k _ _ _ _ _ _ _ _ _ _ _ _ C hP hS hl)
theorem wr_astore_n {i : Fin 4} {x : Nat} {lv' : List (Nat × Value)} (hdg : decode M.2.1 pc = .ok (.astore_n i, 1)) (hn : i.1 < M.2.2.1) (hv : (i.1, Value.ref x) :: lv.filter (fun q => !(q.1 == i.1) && !(q.1 + 1 == i.1 && q.2.category == 2)) = lv') (k : WP G M (pc + 1) lv' rest σ Q) : WP G M pc lv (.ref x :: rest) σ Q := fun p l e s m a b me c H L ls C hP hS hl => lv_astore_n C.1 C.2.1 hdg rfl hl hn hv (fun ls hl => k _ _ _ _ _ _ _ _ _ _ _ _ C hP hS hl)
theorem wr_astore {i : Nat} {x : Nat} {lv' : List (Nat × Value)} (hdg : decode M.2.1 pc = .ok (.astore i, 2)) (hn : i < M.2.2.1) (hv : (i, Value.ref x) :: lv.filter (fun q => !(q.1 == i) && !(q.1 + 1 == i && q.2.category == 2)) = lv') (k : WP G M (pc + 2) lv' rest σ Q) : WP G M pc lv (.ref x :: rest) σ Q := fun p l e s m a b me c H L ls C hP hS hl => lv_astore C.1 C.2.1 hdg hl hn hv (fun ls hl => k _ _ _ _ _ _ _ _ _ _ _ _ C hP hS hl)
theorem wr_iinc {i : Nat} {n : Int} {x v : Int32} {lv' : List (Nat × Value)} (hdg : decode M.2.1 pc = .ok (.iinc i n, 3)) (j : Nat) (hj : lv[j]? = some (i, .int x)) (hx : x + Int32.ofInt n = v) (hn : i < M.2.2.1) (hv : (i, Value.int v) :: lv.filter (fun q => !(q.1 == i) && !(q.1 + 1 == i && q.2.category == 2)) = lv') (k : WP G M (pc + 3) lv' rest σ Q) : WP G M pc lv rest σ Q := fun p l e s m a b me c H L ls C hP hS hl => lv_iinc (v := v) C.1 C.2.1 hdg hl hj hx hn hv (fun ls hl => k _ _ _ _ _ _ _ _ _ _ _ _ C hP hS hl)
theorem wr_lcmp {x y : Int64} (hdg : decode M.2.1 pc = .ok (.lcmp, 1)) (k : WP G M (pc + 1) lv (.int (lg_cmp x y) :: rest) σ Q) : WP G M pc lv (.long y :: .long x :: rest) σ Q := fun p l e s m a b me c H L ls C hP hS hl => W.lcmp C.1 C.2.1 hdg (k _ _ _ _ _ _ _ _ _ _ _ _ C hP hS hl)
theorem wr_ldc {idx : Nat} {v : Int32} (hw : Cond.constant M.1.cls idx v ∈ tb) (hdg : decode M.2.1 pc = .ok (.ldc idx, 2)) (k : WP G M (pc + 2) lv (.int v :: rest) σ Q) : WP G M pc lv rest σ Q := fun p l e s m a b me c H L ls C hP hS hl => lv_ldc C.1 C.2.1 C.2.2.2.2.1 (C.2.2.2.2.2.2.2.1.use hw) hdg (k _ _ _ _ _ _ _ _ _ _ _ _ C hP hS hl)
theorem wr_ldcw {idx : Nat} {v : Int32} (hw : Cond.constant M.1.cls idx v ∈ tb) (hdg : decode M.2.1 pc = .ok (.ldc_w idx, 3)) (k : WP G M (pc + 3) lv (.int v :: rest) σ Q) : WP G M pc lv rest σ Q := fun p l e s m a b me c H L ls C hP hS hl => lv_ldcw C.1 C.2.1 C.2.2.2.2.1 (C.2.2.2.2.2.2.2.1.use hw) hdg (k _ _ _ _ _ _ _ _ _ _ _ _ C hP hS hl)
theorem wr_ldc2 {idx : Nat} {v : Int64} (hw : Cond.constantLong M.1.cls idx v ∈ tb) (hdg : decode M.2.1 pc = .ok (.ldc2_w idx, 3)) (k : WP G M (pc + 3) lv (.long v :: rest) σ Q) : WP G M pc lv rest σ Q := fun p l e s m a b me c H L ls C hP hS hl => lv_ldc2 C.1 C.2.1 C.2.2.2.2.1 (C.2.2.2.2.2.2.2.1.use hw) hdg (k _ _ _ _ _ _ _ _ _ _ _ _ C hP hS hl)
theorem wr_ldcS (i : Nat) (hi : i < 8) {idx : Nat} (hx : (skL.getD i (0, "")).1 = idx) (ho : M.1.cls = RX7) (hdg : decode M.2.1 pc = .ok (.ldc idx, 2)) (k : WP G M (pc + 2) lv (.ref (G.1 (210 + i)) :: rest) σ Q) : WP G M pc lv rest σ Q := fun p l e s m a b me c H L ls C hP hS hl => va_ldcS C.1 C.2.1 (by rw [← ho]; exact C.2.2.2.2.1) (C.2.2.2.2.2.2.2.2.2.2.2.2.1 i hi) (by rw [hx]; exact hdg) (k _ _ _ _ _ _ _ _ _ _ _ _ C hP hS hl)
theorem wr_getsD {idx : Nat} (ho : M.1.cls = RX8) (hw : Cond.fieldLink M.1.cls idx "TinDucks" "DIGEST_TICKS" "[I" ∈ tb) (hdg : decode M.2.1 pc = .ok (.getstatic idx, 3)) (k : WP G M (pc + 3) lv (.ref (G.1 200) :: rest) σ Q) : WP G M pc lv rest σ Q := fun p l e s m a b me c H L ls C hP hS hl => va_gets C.1 C.2.1 C.2.2.2.2.2.2.2.2.2.1 hS C.2.2.2.2.1 (C.2.2.2.2.2.2.2.1.use hw) (fun _ h => h) hdg (k _ _ _ _ _ _ _ _ _ _ _ _ C hP hS hl)
theorem wr_dlen (hdg : decode M.2.1 pc = .ok (.arraylength, 1)) (k : WP G M (pc + 1) lv (.int 4 :: rest) σ Q) : WP G M pc lv (.ref (G.1 200) :: rest) σ Q := fun p l e s m a b me c H L ls C hP hS hl => va_tlen C.1 C.2.1 C.2.2.2.2.2.2.2.2.2.2.1 hS rfl hdg (k _ _ _ _ _ _ _ _ _ _ _ _ C hP hS hl)
theorem wr_dld {i : Int32} (hin : vp_in i 4) (hdg : decode M.2.1 pc = .ok (.iaload, 1)) (k : WP G M (pc + 1) lv (.int (dtk i.toNatClampNeg) :: rest) σ Q) : WP G M pc lv (.int i :: .ref (G.1 200) :: rest) σ Q := fun p l e s m a b me c H L ls C hP hS hl => va_ti C.1 C.2.1 C.2.2.2.2.2.2.2.2.2.2.1 hS hin rfl hdg (k _ _ _ _ _ _ _ _ _ _ _ _ C hP hS hl)
theorem wr_tabIn {dflt lo hi : Int} {offs : Array Int} {len : Nat} {x : Int32} {off : Int} {tgt : Nat} (hdg : decode M.2.1 pc = .ok (.tableswitch dflt lo hi offs, len)) (h1 : ¬ x.toInt < lo) (h2 : ¬ hi < x.toInt) (ho : offs[(x.toInt - lo).toNat]? = some off) (ht : (pc : Int) + off = (tgt : Int)) (k : WP G M tgt lv rest σ Q) : WP G M pc lv (.int x :: rest) σ Q := fun p l e s m a b me c H L ls C hP hS hl => lv_tableIn C.1 C.2.1 hdg h1 h2 ho ht (k _ _ _ _ _ _ _ _ _ _ _ _ C hP hS hl)
theorem wr_tabOut {dflt lo hi : Int} {offs : Array Int} {len : Nat} {x : Int32} {tgt : Nat} (hdg : decode M.2.1 pc = .ok (.tableswitch dflt lo hi offs, len)) (h : x.toInt < lo ∨ hi < x.toInt) (ht : (pc : Int) + dflt = (tgt : Int)) (k : WP G M tgt lv rest σ Q) : WP G M pc lv (.int x :: rest) σ Q := fun p l e s m a b me c H L ls C hP hS hl => lv_tableOut C.1 C.2.1 hdg h ht (k _ _ _ _ _ _ _ _ _ _ _ _ C hP hS hl)
theorem wr_look {dflt : Int} {ps : Array (Int × Int)} {len : Nat} {x : Int32} {off : Int} {tgt : Nat} (hdg : decode M.2.1 pc = .ok (.lookupswitch dflt ps, len)) (hp : (ps.toList.zip (ps.toList.drop 1)).all (fun (a, next) => a.1 < next.1) = true) (ho : Op.lookupswitch.offset ps.toList dflt x.toInt = off) (ht : (pc : Int) + off = (tgt : Int)) (k : WP G M tgt lv rest σ Q) : WP G M pc lv (.int x :: rest) σ Q := fun p l e s m a b me c H L ls C hP hS hl => lv_lookup C.1 C.2.1 hdg hp ho ht (k _ _ _ _ _ _ _ _ _ _ _ _ C hP hS hl)
theorem fl_N {own : String} {idx ci j : Nat} {fin : Bool} {tj : FieldType} {o : Nat} (hf : FL own idx ci j fin tj) (hk : kd o = ci) : o < 93 ∧ ci < 10 ∧ j < ln o := by
  obtain ⟨C, T, N, ty, ⟨h1, -⟩, h2, -⟩ := hf
  have hc : ci < 10 := (List.getElem?_eq_some_iff.mp h1).1
  have ho : o < 93 := kd_lt (by omega)
  have h3 := shp_ok o ho (by omega)
  rw [hk, h1] at h3
  have h4 : N = ln o := Option.some.inj h3
  exact ⟨ho, hc, by omega⟩
theorem wr_get {idx ci j o : Nat} {fin : Bool} {tj : FieldType} {v : Value} (hf : FL M.1.cls idx ci j fin tj) (hk : kd o = ci) (hv : fv G σ o j = v) (hdg : decode M.2.1 pc = .ok (.getfield idx, 3)) (k : WP G M (pc + 3) lv (v :: rest) σ Q) : WP G M pc lv (.ref (G.1 o) :: rest) σ Q := by
  obtain ⟨ho, hc, hj⟩ := fl_N hf hk
  obtain ⟨C0, T, N, ty, ⟨h1, h2, h3, h4⟩, h5, h6, -⟩ := hf
  intro p l e s m a b me c H L ls C hP hS hl
  refine va_get (Ts := tb) (C := C0) (T := T) (N := N) (ci := ci) (fs := (List.range (ln o)).map (fv G σ o)) (v := v) C.1 C.2.1 (fun w hw => C.2.2.2.2.2.2.2.1.use hw) h2 C.2.2.2.2.1 C.2.2.2.2.2.2.2.2.1 hP o ?_ h1 j h5 (C.2.2.2.2.2.2.2.1.use h6) (fun _ h => h) ?_ hdg (k _ _ _ _ _ _ _ _ _ _ _ _ C hP hS hl)
  · rw [wl_get ho, ce, if_pos (by omega), hk]
  · simp [hj, hv]
theorem wr_getI {idx ci j o : Nat} {fin : Bool} {tj : FieldType} (hf : FL M.1.cls idx ci j fin tj) (hk : kd o = ci) (hs : fk ci j = 0) (hdg : decode M.2.1 pc = .ok (.getfield idx, 3)) (k : WP G M (pc + 3) lv (.int (σ.1 o j) :: rest) σ Q) : WP G M pc lv (.ref (G.1 o) :: rest) σ Q := wr_get hf hk (by rw [fv, hk, hs]; rfl) hdg k
theorem wr_getL {idx ci j o : Nat} {fin : Bool} {tj : FieldType} (hf : FL M.1.cls idx ci j fin tj) (hk : kd o = ci) (hs : fk ci j = 1) (hdg : decode M.2.1 pc = .ok (.getfield idx, 3)) (k : WP G M (pc + 3) lv (.long (σ.2.1 o j) :: rest) σ Q) : WP G M pc lv (.ref (G.1 o) :: rest) σ Q := wr_get hf hk (by rw [fv, hk, hs]; rfl) hdg k
theorem wr_getR {idx ci j o : Nat} {fin : Bool} {tj : FieldType} (hf : FL M.1.cls idx ci j fin tj) (hk : kd o = ci) (hs : fk ci j = 2) (hdg : decode M.2.1 pc = .ok (.getfield idx, 3)) (k : WP G M (pc + 3) lv (.ref (G.1 (rt o j)) :: rest) σ Q) : WP G M pc lv (.ref (G.1 o) :: rest) σ Q := wr_get hf hk (by rw [fv, hk, hs]; rfl) hdg k
theorem wr_getN {idx ci j o : Nat} {fin : Bool} {tj : FieldType} (hf : FL M.1.cls idx ci j fin tj) (hk : kd o = ci) (hs : fk ci j = 3) (hdg : decode M.2.1 pc = .ok (.getfield idx, 3)) (k : WP G M (pc + 3) lv (.ref (G.1 (σ.2.2 o j)) :: rest) σ Q) : WP G M pc lv (.ref (G.1 o) :: rest) σ Q := wr_get hf hk (by rw [fv, hk, hs]; rfl) hdg k
theorem wr_put {idx ci j o : Nat} {tj : FieldType} {v : Value} {σ' : Hp} (hf : FL M.1.cls idx ci j false tj) (hk : kd o = ci) (hn : narrow tj v = v) (hft : fits tj v = true) (h1' : ∀ i, fv G σ' o i = if i = j then v else fv G σ o i) (h2' : ∀ i, i ≠ o → ce G σ' i = ce G σ i) (hdg : decode M.2.1 pc = .ok (.putfield idx, 3)) (k : WP G M (pc + 3) lv rest σ' Q) : WP G M pc lv (v :: .ref (G.1 o) :: rest) σ Q := by
  obtain ⟨ho, hc, hj⟩ := fl_N hf hk
  obtain ⟨C0, T, N, ty, ⟨h1, h2, h3, h4⟩, h5, h6, h7, h8⟩ := hf
  intro p l e s m a b me c H L ls C hP hS hl
  refine va_put (Ts := tb) (C := C0) (T := T) (N := N) (ci := ci) (fs := (List.range (ln o)).map (fv G σ o)) (v := v) (ty := tj) C.1 C.2.1 (fun w hw => C.2.2.2.2.2.2.2.1.use hw) h2 ty h3 h4 C.2.2.2.2.1 C.2.2.2.2.2.2.2.2.1 hP (wl_D C.2.2.2.2.2.2.1) hS o ?_ h1 j h5 (C.2.2.2.2.2.2.2.1.use h6) (fun _ h => h) h7 (by rw [h3 j h5, h8]) hn hft (by simpa using hj) hdg (fun H1 L1 hP1 _ hS1 => k _ _ _ _ _ _ _ _ _ _ _ _ C ?_ hS1 hl)
  · rw [wl_get ho, ce, if_pos (by omega), hk]
  · rw [wl_set (σ := σ) (σ' := σ') ?_ h2'] at hP1
    · exact hP1
    · rw [ce, if_pos (by omega), hk]
      congr 2
      apply List.ext_getElem?
      intro i
      rw [List.getElem?_set, List.getElem?_map, List.getElem?_map]
      by_cases hi : i < ln o
      · rw [List.getElem?_range hi]
        by_cases hij : j = i
        · subst hij; simp [h1', hi]
        · have hji : ¬ i = j := fun h => hij h.symm
          simp [h1', hij, hji]
      · rw [List.getElem?_eq_none (by simpa using hi)]
        by_cases hij : j = i
        · subst hij; exact absurd hj hi
        · simp [hij]
theorem wr_putI {idx ci j o : Nat} {tj : FieldType} {x : Int32} (hf : FL M.1.cls idx ci j false tj) (hk : kd o = ci) (hs : fk ci j = 0) (hn : narrow tj (.int x) = .int x) (hft : fits tj (.int x) = true) (hdg : decode M.2.1 pc = .ok (.putfield idx, 3)) (k : WP G M (pc + 3) lv rest (wI σ o j x) Q) : WP G M pc lv (.int x :: .ref (G.1 o) :: rest) σ Q := by
  refine wr_put hf hk hn hft (σ' := wI σ o j x) (fun i => ?_) (fun i hi => ?_) hdg k
  · by_cases hij : i = j
    · subst hij; simp [fv, hk, hs, wI, up2]
    · simp only [fv, wI, up2, if_true, if_neg hij]
  · exact ce_congr (up2_ne _ _ _ hi) rfl rfl
theorem wr_putL {idx ci j o : Nat} {tj : FieldType} {x : Int64} (hf : FL M.1.cls idx ci j false tj) (hk : kd o = ci) (hs : fk ci j = 1) (hn : narrow tj (.long x) = .long x) (hft : fits tj (.long x) = true) (hdg : decode M.2.1 pc = .ok (.putfield idx, 3)) (k : WP G M (pc + 3) lv rest (wL σ o j x) Q) : WP G M pc lv (.long x :: .ref (G.1 o) :: rest) σ Q := by
  refine wr_put hf hk hn hft (σ' := wL σ o j x) (fun i => ?_) (fun i hi => ?_) hdg k
  · by_cases hij : i = j
    · subst hij; simp [fv, hk, hs, wL, up2]
    · simp only [fv, wL, up2, if_true, if_neg hij]
  · exact ce_congr rfl (up2_ne _ _ _ hi) rfl
theorem wr_putN {idx ci j o : Nat} {tj : FieldType} {x : Nat} (hf : FL M.1.cls idx ci j false tj) (hk : kd o = ci) (hs : fk ci j = 3) (hn : narrow tj (.ref (G.1 x)) = .ref (G.1 x)) (hft : fits tj (.ref (G.1 x)) = true) (hdg : decode M.2.1 pc = .ok (.putfield idx, 3)) (k : WP G M (pc + 3) lv rest (wN σ o j x) Q) : WP G M pc lv (.ref (G.1 x) :: .ref (G.1 o) :: rest) σ Q := by
  refine wr_put hf hk hn hft (σ' := wN σ o j x) (fun i => ?_) (fun i hi => ?_) hdg k
  · by_cases hij : i = j
    · subst hij; simp [fv, hk, hs, wN, up2]
    · simp only [fv, wN, up2, if_true, if_neg hij]
  · exact ce_congr rfl rfl (up2_ne _ _ _ hi)
theorem vp_in_pos {i : Int32} {n : Nat} (h : vp_in i n) : 0 < n := by
  have h2 : i.toNatClampNeg < n := Nat.not_le.mp fun q => h (Or.inr q)
  omega
theorem iln_kd {i : Int32} {a : Nat} (h : vp_in i (iln a)) : kd a = 10 ∧ iln a = ln a ∧ a < 93 := by
  have h2 := vp_in_pos h
  unfold iln at h2 ⊢
  by_cases h3 : kd a = 10
  · rw [if_pos h3]; exact ⟨h3, rfl, kd_lt (by omega)⟩
  · rw [if_neg h3] at h2; omega
theorem lln_kd {i : Int32} {a : Nat} (h : vp_in i (lln a)) : kd a = 11 ∧ lln a = ln a ∧ a < 93 := by
  have h2 := vp_in_pos h
  unfold lln at h2 ⊢
  by_cases h3 : kd a = 11
  · rw [if_pos h3]; exact ⟨h3, rfl, kd_lt (by omega)⟩
  · rw [if_neg h3] at h2; omega
theorem ce_i {a : Nat} (h : kd a = 10) : ce G σ a = .inl (G.2.2 0, ln a, .inl (σ.1 a)) := by rw [ce, if_neg (by omega), if_pos h]
theorem ce_l {a : Nat} (h : kd a = 11) : ce G σ a = .inl (G.2.2 1, ln a, .inr (.inl (σ.2.1 a))) := by rw [ce, if_neg (by omega), if_neg (by omega), if_pos h]
theorem ce_s {a : Nat} (h : kd a = 12) : ce G σ a = .inl (G.2.2 2, ln a, .inr (.inr (.inr (.inr (fun j => some (G.1 (rt a j))))))) := by rw [ce, if_neg (by omega), if_neg (by omega), if_neg (by omega), if_pos h]
theorem ce_t {a : Nat} (h : kd a = 13) : ce G σ a = .inl (G.2.2 3, ln a, .inr (.inr (.inr (.inr (fun j => some (G.1 (rt a j))))))) := by rw [ce, if_neg (by omega), if_neg (by omega), if_neg (by omega), if_neg (by omega)]
theorem wr_iald {a : Nat} {i : Int32} (hin : vp_in i (iln a)) (hdg : decode M.2.1 pc = .ok (.iaload, 1)) (k : WP G M (pc + 1) lv (.int (σ.1 a i.toNatClampNeg) :: rest) σ Q) : WP G M pc lv (.int i :: .ref (G.1 a) :: rest) σ Q := by
  obtain ⟨h1, h2, h3⟩ := iln_kd hin
  rw [h2] at hin
  exact fun p l e s m a0 b me c H L ls C hP hS hl => va_iald C.1 C.2.1 C.2.2.2.2.2.2.2.2.1 hP a 0 (by rw [wl_get h3, ce_i h1]) rfl hin hdg (k _ _ _ _ _ _ _ _ _ _ _ _ C hP hS hl)
theorem wr_lald {a : Nat} {i : Int32} (hin : vp_in i (lln a)) (hdg : decode M.2.1 pc = .ok (.laload, 1)) (k : WP G M (pc + 1) lv (.long (σ.2.1 a i.toNatClampNeg) :: rest) σ Q) : WP G M pc lv (.int i :: .ref (G.1 a) :: rest) σ Q := by
  obtain ⟨h1, h2, h3⟩ := lln_kd hin
  rw [h2] at hin
  exact fun p l e s m a0 b me c H L ls C hP hS hl => va_lald C.1 C.2.1 C.2.2.2.2.2.2.2.2.1 hP a 1 (by rw [wl_get h3, ce_l h1]) rfl hin hdg (k _ _ _ _ _ _ _ _ _ _ _ _ C hP hS hl)
theorem wr_iast {a : Nat} {i x : Int32} (hin : vp_in i (iln a)) (hdg : decode M.2.1 pc = .ok (.iastore, 1)) (k : WP G M (pc + 1) lv rest (wI σ a i.toNatClampNeg x) Q) : WP G M pc lv (.int x :: .int i :: .ref (G.1 a) :: rest) σ Q := by
  obtain ⟨h1, h2, h3⟩ := iln_kd hin
  rw [h2] at hin
  refine fun p l e s m a0 b me c H L ls C hP hS hl => va_iast C.1 C.2.1 C.2.2.2.2.2.2.2.2.1 hP (wl_D C.2.2.2.2.2.2.1) hS a 0 (by rw [wl_get h3, ce_i h1]) rfl hin hdg (fun H1 L1 hP1 _ hS1 => k _ _ _ _ _ _ _ _ _ _ _ _ C ?_ hS1 hl)
  rw [wl_set (σ := σ) (σ' := wI σ a i.toNatClampNeg x) ?_ (fun j hj => ce_congr (up2_ne _ _ _ hj) rfl rfl)] at hP1
  · exact hP1
  · rw [ce_i h1]
    simp only [wI, up2_row]
    rfl
theorem wr_last {a : Nat} {i : Int32} {x : Int64} (hin : vp_in i (lln a)) (hdg : decode M.2.1 pc = .ok (.lastore, 1)) (k : WP G M (pc + 1) lv rest (wL σ a i.toNatClampNeg x) Q) : WP G M pc lv (.long x :: .int i :: .ref (G.1 a) :: rest) σ Q := by
  obtain ⟨h1, h2, h3⟩ := lln_kd hin
  rw [h2] at hin
  refine fun p l e s m a0 b me c H L ls C hP hS hl => va_last C.1 C.2.1 C.2.2.2.2.2.2.2.2.1 hP (wl_D C.2.2.2.2.2.2.1) hS a 1 (by rw [wl_get h3, ce_l h1]) rfl hin hdg (fun H1 L1 hP1 _ hS1 => k _ _ _ _ _ _ _ _ _ _ _ _ C ?_ hS1 hl)
  rw [wl_set (σ := σ) (σ' := wL σ a i.toNatClampNeg x) ?_ (fun j hj => ce_congr rfl (up2_ne _ _ _ hj) rfl)] at hP1
  · exact hP1
  · rw [ce_l h1]
    simp only [wL, up2_row]
    rfl
theorem wr_aald {a : Nat} {i : Int32} (hin : vp_in i (rln a)) (hdg : decode M.2.1 pc = .ok (.aaload, 1)) (k : WP G M (pc + 1) lv (.ref (G.1 (rt a i.toNatClampNeg)) :: rest) σ Q) : WP G M pc lv (.int i :: .ref (G.1 a) :: rest) σ Q := by
  have h0 := vp_in_pos hin
  unfold rln at hin h0
  by_cases h1 : kd a = 12
  · rw [if_pos h1] at hin
    exact fun p l e s m a0 b me c H L ls C hP hS hl => va_aldq C.1 C.2.1 C.2.2.2.2.2.2.2.2.1 hP a 2 (by rw [wl_get (kd_lt (by omega)), ce_s h1]) rfl hin hdg (k _ _ _ _ _ _ _ _ _ _ _ _ C hP hS hl)
  · rw [if_neg h1] at hin h0
    by_cases h2 : kd a = 13
    · rw [if_pos h2] at hin
      exact fun p l e s m a0 b me c H L ls C hP hS hl => va_aldq C.1 C.2.1 C.2.2.2.2.2.2.2.2.1 hP a 3 (by rw [wl_get (kd_lt (by omega)), ce_t h2]) rfl hin hdg (k _ _ _ _ _ _ _ _ _ _ _ _ C hP hS hl)
    · rw [if_neg h2] at h0
      omega
theorem wr_alen {a : Nat} (h1 : kd a = 10) (hdg : decode M.2.1 pc = .ok (.arraylength, 1)) (k : WP G M (pc + 1) lv (.int (nI (ln a)) :: rest) σ Q) : WP G M pc lv (.ref (G.1 a) :: rest) σ Q :=
  fun p l e s m a0 b me c H L ls C hP hS hl => va_alen C.1 C.2.1 C.2.2.2.2.2.2.2.2.1 hP a 0 (by rw [wl_get (kd_lt (by omega)), ce_i h1]) rfl rfl hdg (k _ _ _ _ _ _ _ _ _ _ _ _ C hP hS hl)
theorem wr_copy {a0 a idx : Nat} {sp dp n : Int32} (hlk : Cond.methodLink M.1.cls idx arraycopyName ∈ tb) (hk0 : kd a0 = 10) (hk1 : kd a = 10) (h1 : ¬ sp < 0) (h2 : ¬ dp < 0) (h3 : ¬ n < 0) (h4 : sp.toNatClampNeg + n.toNatClampNeg ≤ iln a0) (h5 : dp.toNatClampNeg + n.toNatClampNeg ≤ iln a) (hfr : 1 ≤ M.2.2.2.2.1) (hlo : (rest.map fun v => v.category).sum + 18 ≤ M.2.2.2.2.2) (hdg : decode M.2.1 pc = .ok (.invokestatic idx, 3)) (k : WP G M (pc + 3) lv rest (wR σ a (va_cpy (σ.1 a0) (σ.1 a) sp.toNatClampNeg dp.toNatClampNeg n.toNatClampNeg)) Q) : WP G M pc lv (.int n :: .int dp :: .ref (G.1 a) :: .int sp :: .ref (G.1 a0) :: rest) σ Q := by
  rw [iln, if_pos hk0] at h4
  rw [iln, if_pos hk1] at h5
  refine fun p l e s m aa b me c H L ls C hP hS hl => va_copyi C.1 C.2.1 (by rw [C.2.2.2.1, hl.1]) C.2.2.2.2.1 (C.2.2.2.2.2.2.2.1.use hlk) (C.2.2.2.2.2.2.2.1.use ac_nat) (C.2.2.2.2.2.2.2.1.use ac_sta) (C.2.2.2.2.2.2.2.1.use ac_ini) C.2.2.2.2.2.2.2.2.1 hP (wl_D C.2.2.2.2.2.2.1) hS a0 a 0 0 (by rw [wl_get (kd_lt (by omega)), ce_i hk0]) (by rw [wl_get (kd_lt (by omega)), ce_i hk1]) rfl rfl rfl h1 h2 h3 h4 h5 (fun _ _ => rfl) hfr (Nat.le_trans (Nat.le_of_eq rfl) hlo) hdg (fun H1 L1 hP1 _ hS1 => k _ _ _ _ _ _ _ _ _ _ _ _ C ?_ hS1 hl)
  rw [wl_set (σ := σ) (σ' := wR σ a (va_cpy (σ.1 a0) (σ.1 a) sp.toNatClampNeg dp.toNatClampNeg n.toNatClampNeg)) ?_ (fun j hj => ce_congr (by simp [wR, hj]) rfl rfl)] at hP1
  · exact hP1
  · rw [ce_i hk1]
    simp [wR]
theorem wr_iret {x : Int32} (hr : M.2.2.2.1 = some .int) (hdg : decode M.2.1 pc = .ok (.ireturn, 1)) (h : Q (some (.int x)) σ) : WP G M pc lv [.int x] σ Q := fun p l e s m a b me c H L ls C hP hS hl => W.iret C.1 C.2.1 (by rw [C.2.2.1]; exact hr) (fun t ht hW => ⟨⟨_, σ, rfl, h, by rw [ht]; exact hP⟩, hS.F ht⟩) hS.2.2 hdg C.2.2.2.2.2.1
theorem wr_zret {x : Int32} {ty : FieldType} (hr : M.2.2.2.1 = some ty) (hn : narrow ty (.int x) = .int x) (hdg : decode M.2.1 pc = .ok (.ireturn, 1)) (h : Q (some (.int x)) σ) : WP G M pc lv [.int x] σ Q := fun p l e s m a b me c H L ls C hP hS hl => W.zret C.1 C.2.1 (by rw [C.2.2.1]; exact hr) hn (fun t ht hW => ⟨⟨_, σ, rfl, h, by rw [ht]; exact hP⟩, hS.F ht⟩) hS.2.2 hdg C.2.2.2.2.2.1
theorem wr_lret {x : Int64} (hr : M.2.2.2.1 = some .long) (hdg : decode M.2.1 pc = .ok (.lreturn, 1)) (h : Q (some (.long x)) σ) : WP G M pc lv [.long x] σ Q := fun p l e s m a b me c H L ls C hP hS hl => W.lret C.1 C.2.1 (by rw [C.2.2.1]; exact hr) (fun t ht hW => ⟨⟨_, σ, rfl, h, by rw [ht]; exact hP⟩, hS.F ht⟩) hS.2.2 hdg C.2.2.2.2.2.1
theorem wr_vret (hr : M.2.2.2.1 = none) (hdg : decode M.2.1 pc = .ok (.return_, 1)) (h : Q none σ) : WP G M pc lv [] σ Q := fun p l e s m a b me c H L ls C hP hS hl => W.vret C.1 C.2.1 (by rw [C.2.2.1]; exact hr) (fun t ht hW => ⟨⟨_, σ, rfl, h, by rw [ht]; exact hP⟩, hS.F ht⟩) hS.2.2 hdg C.2.2.2.2.2.1
theorem wr_aret {x : Nat} {nm : String} (hr : M.2.2.2.1 = some (.object nm)) (hdg : decode M.2.1 pc = .ok (.areturn, 1)) (h : Q (some (.ref x)) σ) : WP G M pc lv [.ref x] σ Q := fun p l e s m a b me c H L ls C hP hS hl => W.aret C.1 C.2.1 (by rw [C.2.2.1]; exact hr) (Or.inl ⟨_, rfl⟩) (Or.inr ⟨_, rfl⟩) (fun t ht hW => ⟨⟨_, σ, rfl, h, by rw [ht]; exact hP⟩, hS.F ht⟩) hS.2.2 hdg C.2.2.2.2.2.1
theorem goodCode {Mc : MT} (h : Cond.code Mc.1 Mc.2.1 Mc.2.2.1 Mc.2.2.2.1 ∈ tb) : GoodIn tb [Cond.code Mc.1 Mc.2.1 Mc.2.2.1 Mc.2.2.2.1] := by
  intro w hw
  rw [List.mem_singleton.mp hw]
  exact ⟨h, Or.inl rfl⟩
theorem wr_callV {Mc : MT} {idx o ci n : Nat} {As st : List Value} {Q' : Option Value → Hp → Prop} (hF : CF M.1.cls idx Mc n) (hV : CV Mc) (hk : kd o = ci) (hc : (vwCl[ci]?).map (fun r => r.1) = some Mc.1.cls) (hR : Mc.2.2.2.2.1 + 1 ≤ M.2.2.2.2.1 ∧ 8 + (Mc.2.2.1 + 11) + Mc.2.2.2.2.2 ≤ M.2.2.2.2.2) (hn : As.length = n) (hst : As.reverse ++ .ref (G.1 o) :: rest = st) (hw : (rest.map fun v => v.category).sum ≤ 8) (hdg : decode M.2.1 pc = .ok (.invokevirtual idx, 3)) (hM : CT G Mc (.ref (G.1 o) :: As) σ Q') (K : ∀ v τ, Q' v τ → WP G M (pc + 3) lv (v.toList ++ rest) τ Q) : WP G M pc lv st σ Q := by
  subst hst
  intro p l e s m a b me c H L ls C hP hS hl
  obtain ⟨f1, f2, f3, f4⟩ := hF
  have hts : ∀ w ∈ tb, w.before a s = true := fun w hw => C.2.2.2.2.2.2.2.1.use hw
  obtain ⟨r, hr1, hr2⟩ : ∃ r, vwCl[ci]? = some r ∧ r.1 = Mc.1.cls := by
    cases h : vwCl[ci]? with
    | none => rw [h] at hc; cases hc
    | some r => rw [h] at hc; exact ⟨r, rfl, Option.some.inj hc⟩
  have hci : ci < 10 := (List.getElem?_eq_some_iff.mp hr1).1
  have hrecv := va_recv (a := G.1 o) (fs := (List.range (ln o)).map (fv G σ o)) C.2.2.2.2.2.2.2.2.1 hP hr1 (q0 := o) (by rw [wl_get (kd_lt (by omega)), ce, if_pos (by omega), hk])
  rw [hr2] at hrecv
  have hp := wp_pre C hP hS (.ref (G.1 o) :: As)
  rcases f4 with f4 | ⟨host, f4⟩
  · exact wp_after (va_runV (g := F0 m pc ls (As.reverse ++ .ref (G.1 o) :: rest)) (Ts := tb) (C := Mc.1.cls) ⟨C.1, C.2.1, C.2.2.2.1, C.2.2.2.2.1, hts⟩ (hM l) ⟨callB_of n hts (goodCode f1) rfl rfl rfl (hts _ f2) (hts _ f4) f3 hR, hts _ hV.1, hts _ hV.2⟩ ⟨hp.1, hrecv, hp.2⟩ rfl hn hl.1 rfl (lv_room (m := m) (pc := pc) (ls := ls) hw) hdg ⟨Nat.zero_le _, Nat.zero_le _⟩) C hS hl K
  · exact wp_after (va_runVN (g := F0 m pc ls (As.reverse ++ .ref (G.1 o) :: rest)) (Ts := tb) (C := Mc.1.cls) (host := host) ⟨C.1, C.2.1, C.2.2.2.1, C.2.2.2.2.1, hts⟩ (hM l) ⟨va_cnB n hts (goodCode f1) rfl rfl rfl (C.2.2.2.2.2.2.2.1 _ f4) (hts _ f2) f3 hR, hts _ hV.1, hts _ hV.2⟩ ⟨hp.1, hrecv, hp.2⟩ rfl hn hl.1 rfl (lv_room (m := m) (pc := pc) (ls := ls) hw) hdg ⟨Nat.zero_le _, Nat.zero_le _⟩) C hS hl K
theorem wr_callS {Mc : MT} {idx n : Nat} {As st : List Value} {Q' : Option Value → Hp → Prop} (hF : CF M.1.cls idx Mc n) (hV : CS Mc) (hR : Mc.2.2.2.2.1 + 1 ≤ M.2.2.2.2.1 ∧ 8 + (Mc.2.2.1 + 11) + Mc.2.2.2.2.2 ≤ M.2.2.2.2.2) (hn : As.length = n) (hst : As.reverse ++ rest = st) (hw : (rest.map fun v => v.category).sum ≤ 8) (hdg : decode M.2.1 pc = .ok (.invokestatic idx, 3)) (hM : CT G Mc As σ Q') (K : ∀ v τ, Q' v τ → WP G M (pc + 3) lv (v.toList ++ rest) τ Q) : WP G M pc lv st σ Q := by
  subst hst
  intro p l e s m a b me c H L ls C hP hS hl
  obtain ⟨f1, f2, f3, f4⟩ := hF
  have hts : ∀ w ∈ tb, w.before a s = true := fun w hw => C.2.2.2.2.2.2.2.1.use hw
  have hp := wp_pre C hP hS As
  rcases f4 with f4 | ⟨host, f4⟩
  · exact wp_after (va_runS (g := F0 m pc ls (As.reverse ++ rest)) (Ts := tb) ⟨C.1, C.2.1, C.2.2.2.1, C.2.2.2.2.1, hts⟩ (hM l) ⟨callB_of n hts (goodCode f1) rfl rfl rfl (hts _ f2) (hts _ f4) f3 hR, hts _ hV⟩ hp rfl hn hl.1 rfl (lv_room (m := m) (pc := pc) (ls := ls) hw) hdg ⟨Nat.zero_le _, Nat.zero_le _⟩) C hS hl K
  · exact wp_after (va_runSN (g := F0 m pc ls (As.reverse ++ rest)) (Ts := tb) (host := host) ⟨C.1, C.2.1, C.2.2.2.1, C.2.2.2.2.1, hts⟩ (hM l) ⟨va_cnB n hts (goodCode f1) rfl rfl rfl (C.2.2.2.2.2.2.2.1 _ f4) (hts _ f2) f3 hR, hts _ hV, trivial⟩ hp rfl hn hl.1 rfl (lv_room (m := m) (pc := pc) (ls := ls) hw) hdg ⟨Nat.zero_le _, Nat.zero_le _⟩) C hS hl K

end WROWS
end

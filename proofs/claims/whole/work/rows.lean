section
-- ===== PART A: goes FIRST, ahead of the names: the tables' words, and 'selects' of the private methods out of them =====
/-- a private method of a class that the tables say can be made, by its rows of tables_1 -/
def lw_okq (q : MethodName × Nat) : Prop := (q.1.cls ≠ "java/lang/invoke/MethodHandle" ∧ q.1.cls ≠ "java/lang/invoke/VarHandle") ∧ Cond.instantiable q.1.cls q.2 ∈ tables_1 ∧ Cond.privateMethod q.1 ∈ tables_1 ∧ Cond.instanceMethod q.1 ∈ tables_1
theorem lw_p0 : lw_okq (⟨"java/util/ArrayList", "add", "(Ljava/lang/Object;[Ljava/lang/Object;I)V"⟩, 3) := ⟨⟨by decide +kernel, by decide +kernel⟩, List.mem_of_getElem? (i := 55) (by decide +kernel), List.mem_of_getElem? (i := 158) (by decide +kernel), List.mem_of_getElem? (i := 159) (by decide +kernel)⟩
theorem lw_p1 : lw_okq (⟨"java/util/ArrayList", "grow", "()[Ljava/lang/Object;"⟩, 3) := ⟨⟨by decide +kernel, by decide +kernel⟩, List.mem_of_getElem? (i := 55) (by decide +kernel), List.mem_of_getElem? (i := 162) (by decide +kernel), List.mem_of_getElem? (i := 163) (by decide +kernel)⟩
theorem lw_p2 : lw_okq (⟨"java/util/ArrayList", "grow", "(I)[Ljava/lang/Object;"⟩, 3) := ⟨⟨by decide +kernel, by decide +kernel⟩, List.mem_of_getElem? (i := 55) (by decide +kernel), List.mem_of_getElem? (i := 166) (by decide +kernel), List.mem_of_getElem? (i := 167) (by decide +kernel)⟩
theorem lw_p3 : lw_okq (⟨"FireEngines$Town", "fireAndDrive", "()V"⟩, 4) := ⟨⟨by decide +kernel, by decide +kernel⟩, List.mem_of_getElem? (i := 49) (by decide +kernel), List.mem_of_getElem? (i := 318) (by decide +kernel), List.mem_of_getElem? (i := 319) (by decide +kernel)⟩
theorem lw_p4 : lw_okq (⟨"FireEngines$Town", "moveWater", "()V"⟩, 4) := ⟨⟨by decide +kernel, by decide +kernel⟩, List.mem_of_getElem? (i := 49) (by decide +kernel), List.mem_of_getElem? (i := 336) (by decide +kernel), List.mem_of_getElem? (i := 337) (by decide +kernel)⟩
theorem lw_p5 : lw_okq (⟨"FireEngines$Town", "nextToAsk", "()I"⟩, 4) := ⟨⟨by decide +kernel, by decide +kernel⟩, List.mem_of_getElem? (i := 49) (by decide +kernel), List.mem_of_getElem? (i := 340) (by decide +kernel), List.mem_of_getElem? (i := 341) (by decide +kernel)⟩
theorem lw_p6 : lw_okq (⟨"FireEngines$Town", "waitsForWater", "(I)Z"⟩, 4) := ⟨⟨by decide +kernel, by decide +kernel⟩, List.mem_of_getElem? (i := 49) (by decide +kernel), List.mem_of_getElem? (i := 344) (by decide +kernel), List.mem_of_getElem? (i := 345) (by decide +kernel)⟩
theorem lw_p7 : lw_okq (⟨"FireEngines$Town", "isEngine", "(I)Z"⟩, 4) := ⟨⟨by decide +kernel, by decide +kernel⟩, List.mem_of_getElem? (i := 49) (by decide +kernel), List.mem_of_getElem? (i := 348) (by decide +kernel), List.mem_of_getElem? (i := 349) (by decide +kernel)⟩
theorem lw_p8 : lw_okq (⟨"FireEngines$Town", "ask", "(LFireEngines$Engine;)V"⟩, 4) := ⟨⟨by decide +kernel, by decide +kernel⟩, List.mem_of_getElem? (i := 49) (by decide +kernel), List.mem_of_getElem? (i := 352) (by decide +kernel), List.mem_of_getElem? (i := 353) (by decide +kernel)⟩
theorem lw_p9 : lw_okq (⟨"FireEngines$Town", "pondBy", "(LFireEngines$Engine;)I"⟩, 4) := ⟨⟨by decide +kernel, by decide +kernel⟩, List.mem_of_getElem? (i := 49) (by decide +kernel), List.mem_of_getElem? (i := 360) (by decide +kernel), List.mem_of_getElem? (i := 361) (by decide +kernel)⟩
theorem lw_p10 : lw_okq (⟨"FireEngines$Town", "sendThroughHose", "(LFireEngines$Engine;)V"⟩, 4) := ⟨⟨by decide +kernel, by decide +kernel⟩, List.mem_of_getElem? (i := 49) (by decide +kernel), List.mem_of_getElem? (i := 375) (by decide +kernel), List.mem_of_getElem? (i := 376) (by decide +kernel)⟩
theorem lw_p11 : lw_okq (⟨"FireEngines$Town", "isHouse", "(I)Z"⟩, 4) := ⟨⟨by decide +kernel, by decide +kernel⟩, List.mem_of_getElem? (i := 49) (by decide +kernel), List.mem_of_getElem? (i := 388) (by decide +kernel), List.mem_of_getElem? (i := 389) (by decide +kernel)⟩
theorem lw_p12 : lw_okq (⟨"FireEngines$House", "endFire", "(I)V"⟩, 7) := ⟨⟨by decide +kernel, by decide +kernel⟩, List.mem_of_getElem? (i := 119) (by decide +kernel), List.mem_of_getElem? (i := 405) (by decide +kernel), List.mem_of_getElem? (i := 406) (by decide +kernel)⟩
theorem lw_p13 : lw_okq (⟨"FireEngines$Town", "catchFire", "()I"⟩, 4) := ⟨⟨by decide +kernel, by decide +kernel⟩, List.mem_of_getElem? (i := 49) (by decide +kernel), List.mem_of_getElem? (i := 410) (by decide +kernel), List.mem_of_getElem? (i := 411) (by decide +kernel)⟩
theorem lw_p14 : lw_okq (⟨"FireEngines$Town", "waterOfPonds", "()I"⟩, 4) := ⟨⟨by decide +kernel, by decide +kernel⟩, List.mem_of_getElem? (i := 49) (by decide +kernel), List.mem_of_getElem? (i := 436) (by decide +kernel), List.mem_of_getElem? (i := 437) (by decide +kernel)⟩
theorem lw_p15 : lw_okq (⟨"FireEngines$Town", "sumOverHouses", "(I)I"⟩, 4) := ⟨⟨by decide +kernel, by decide +kernel⟩, List.mem_of_getElem? (i := 49) (by decide +kernel), List.mem_of_getElem? (i := 440) (by decide +kernel), List.mem_of_getElem? (i := 441) (by decide +kernel)⟩
def lw_privs_1 : List (MethodName × Nat) := [(⟨"java/util/ArrayList", "add", "(Ljava/lang/Object;[Ljava/lang/Object;I)V"⟩, 3), (⟨"java/util/ArrayList", "grow", "()[Ljava/lang/Object;"⟩, 3), (⟨"java/util/ArrayList", "grow", "(I)[Ljava/lang/Object;"⟩, 3), (⟨"FireEngines$Town", "fireAndDrive", "()V"⟩, 4), (⟨"FireEngines$Town", "moveWater", "()V"⟩, 4), (⟨"FireEngines$Town", "nextToAsk", "()I"⟩, 4), (⟨"FireEngines$Town", "waitsForWater", "(I)Z"⟩, 4), (⟨"FireEngines$Town", "isEngine", "(I)Z"⟩, 4), (⟨"FireEngines$Town", "ask", "(LFireEngines$Engine;)V"⟩, 4), (⟨"FireEngines$Town", "pondBy", "(LFireEngines$Engine;)I"⟩, 4), (⟨"FireEngines$Town", "sendThroughHose", "(LFireEngines$Engine;)V"⟩, 4), (⟨"FireEngines$Town", "isHouse", "(I)Z"⟩, 4), (⟨"FireEngines$House", "endFire", "(I)V"⟩, 7), (⟨"FireEngines$Town", "catchFire", "()I"⟩, 4), (⟨"FireEngines$Town", "waterOfPonds", "()I"⟩, 4), (⟨"FireEngines$Town", "sumOverHouses", "(I)I"⟩, 4)]
theorem lw_r1 : ∀ q ∈ lw_privs_1, lw_okq q := List.forall_mem_cons.mpr ⟨lw_p0, List.forall_mem_cons.mpr ⟨lw_p1, List.forall_mem_cons.mpr ⟨lw_p2, List.forall_mem_cons.mpr ⟨lw_p3, List.forall_mem_cons.mpr ⟨lw_p4, List.forall_mem_cons.mpr ⟨lw_p5, List.forall_mem_cons.mpr ⟨lw_p6, List.forall_mem_cons.mpr ⟨lw_p7, List.forall_mem_cons.mpr ⟨lw_p8, List.forall_mem_cons.mpr ⟨lw_p9, List.forall_mem_cons.mpr ⟨lw_p10, List.forall_mem_cons.mpr ⟨lw_p11, List.forall_mem_cons.mpr ⟨lw_p12, List.forall_mem_cons.mpr ⟨lw_p13, List.forall_mem_cons.mpr ⟨lw_p14, List.forall_mem_cons.mpr ⟨lw_p15, fun _ h => absurd h List.not_mem_nil⟩⟩⟩⟩⟩⟩⟩⟩⟩⟩⟩⟩⟩⟩⟩⟩
theorem lw_p16 : lw_okq (⟨"java/lang/Throwable", "fillInStackTrace", "(I)Ljava/lang/Throwable;"⟩, 6) := ⟨⟨by decide +kernel, by decide +kernel⟩, List.mem_of_getElem? (i := 509) (by decide +kernel), List.mem_of_getElem? (i := 507) (by decide +kernel), List.mem_of_getElem? (i := 508) (by decide +kernel)⟩
theorem lw_p17 : lw_okq (⟨"FireEngines", "isFree", "(I)Z"⟩, 3) := ⟨⟨by decide +kernel, by decide +kernel⟩, List.mem_of_getElem? (i := 24) (by decide +kernel), List.mem_of_getElem? (i := 561) (by decide +kernel), List.mem_of_getElem? (i := 562) (by decide +kernel)⟩
theorem lw_p18 : lw_okq (⟨"FireEngines", "requireHouse", "(I)V"⟩, 3) := ⟨⟨by decide +kernel, by decide +kernel⟩, List.mem_of_getElem? (i := 24) (by decide +kernel), List.mem_of_getElem? (i := 622) (by decide +kernel), List.mem_of_getElem? (i := 623) (by decide +kernel)⟩
theorem lw_p19 : lw_okq (⟨"FireEngines", "requireEngine", "(I)V"⟩, 3) := ⟨⟨by decide +kernel, by decide +kernel⟩, List.mem_of_getElem? (i := 24) (by decide +kernel), List.mem_of_getElem? (i := 670) (by decide +kernel), List.mem_of_getElem? (i := 671) (by decide +kernel)⟩
theorem lw_p20 : lw_okq (⟨"FireEngines$Ground", "spread", "(I)I"⟩, 3) := ⟨⟨by decide +kernel, by decide +kernel⟩, List.mem_of_getElem? (i := 32) (by decide +kernel), List.mem_of_getElem? (i := 690) (by decide +kernel), List.mem_of_getElem? (i := 691) (by decide +kernel)⟩
theorem lw_p21 : lw_okq (⟨"FireEngines$Ground", "enter", "(III)I"⟩, 3) := ⟨⟨by decide +kernel, by decide +kernel⟩, List.mem_of_getElem? (i := 32) (by decide +kernel), List.mem_of_getElem? (i := 694) (by decide +kernel), List.mem_of_getElem? (i := 695) (by decide +kernel)⟩
theorem lw_p22 : lw_okq (⟨"FireEngines", "fallenIfAimed", "(III)I"⟩, 3) := ⟨⟨by decide +kernel, by decide +kernel⟩, List.mem_of_getElem? (i := 24) (by decide +kernel), List.mem_of_getElem? (i := 785) (by decide +kernel), List.mem_of_getElem? (i := 786) (by decide +kernel)⟩
theorem lw_p23 : lw_okq (⟨"FireEnginesModel", "fail", "(I)I"⟩, 13) := ⟨⟨by decide +kernel, by decide +kernel⟩, List.mem_of_getElem? (i := 789) (by decide +kernel), List.mem_of_getElem? (i := 850) (by decide +kernel), List.mem_of_getElem? (i := 851) (by decide +kernel)⟩
theorem lw_p24 : lw_okq (⟨"FireEnginesModel", "isFree", "(I)Z"⟩, 13) := ⟨⟨by decide +kernel, by decide +kernel⟩, List.mem_of_getElem? (i := 789) (by decide +kernel), List.mem_of_getElem? (i := 854) (by decide +kernel), List.mem_of_getElem? (i := 855) (by decide +kernel)⟩
theorem lw_p25 : lw_okq (⟨"FireEnginesModel", "isStreet", "(I)Z"⟩, 13) := ⟨⟨by decide +kernel, by decide +kernel⟩, List.mem_of_getElem? (i := 789) (by decide +kernel), List.mem_of_getElem? (i := 858) (by decide +kernel), List.mem_of_getElem? (i := 859) (by decide +kernel)⟩
theorem lw_p26 : lw_okq (⟨"FireEnginesModel", "houseAt", "(I)I"⟩, 13) := ⟨⟨by decide +kernel, by decide +kernel⟩, List.mem_of_getElem? (i := 789) (by decide +kernel), List.mem_of_getElem? (i := 862) (by decide +kernel), List.mem_of_getElem? (i := 863) (by decide +kernel)⟩
theorem lw_p27 : lw_okq (⟨"FireEnginesModel", "ho", "(II)I"⟩, 13) := ⟨⟨by decide +kernel, by decide +kernel⟩, List.mem_of_getElem? (i := 789) (by decide +kernel), List.mem_of_getElem? (i := 866) (by decide +kernel), List.mem_of_getElem? (i := 867) (by decide +kernel)⟩
theorem lw_p28 : lw_okq (⟨"FireEnginesModel", "pondAt", "(I)I"⟩, 13) := ⟨⟨by decide +kernel, by decide +kernel⟩, List.mem_of_getElem? (i := 789) (by decide +kernel), List.mem_of_getElem? (i := 870) (by decide +kernel), List.mem_of_getElem? (i := 871) (by decide +kernel)⟩
theorem lw_p29 : lw_okq (⟨"FireEnginesModel", "en", "(II)I"⟩, 13) := ⟨⟨by decide +kernel, by decide +kernel⟩, List.mem_of_getElem? (i := 789) (by decide +kernel), List.mem_of_getElem? (i := 874) (by decide +kernel), List.mem_of_getElem? (i := 875) (by decide +kernel)⟩
theorem lw_p30 : lw_okq (⟨"FireEnginesModel", "isHouse", "(I)Z"⟩, 13) := ⟨⟨by decide +kernel, by decide +kernel⟩, List.mem_of_getElem? (i := 789) (by decide +kernel), List.mem_of_getElem? (i := 887) (by decide +kernel), List.mem_of_getElem? (i := 888) (by decide +kernel)⟩
theorem lw_p31 : lw_okq (⟨"FireEnginesModel", "setHo", "(III)V"⟩, 13) := ⟨⟨by decide +kernel, by decide +kernel⟩, List.mem_of_getElem? (i := 789) (by decide +kernel), List.mem_of_getElem? (i := 891) (by decide +kernel), List.mem_of_getElem? (i := 892) (by decide +kernel)⟩
def lw_privs_2 : List (MethodName × Nat) := [(⟨"java/lang/Throwable", "fillInStackTrace", "(I)Ljava/lang/Throwable;"⟩, 6), (⟨"FireEngines", "isFree", "(I)Z"⟩, 3), (⟨"FireEngines", "requireHouse", "(I)V"⟩, 3), (⟨"FireEngines", "requireEngine", "(I)V"⟩, 3), (⟨"FireEngines$Ground", "spread", "(I)I"⟩, 3), (⟨"FireEngines$Ground", "enter", "(III)I"⟩, 3), (⟨"FireEngines", "fallenIfAimed", "(III)I"⟩, 3), (⟨"FireEnginesModel", "fail", "(I)I"⟩, 13), (⟨"FireEnginesModel", "isFree", "(I)Z"⟩, 13), (⟨"FireEnginesModel", "isStreet", "(I)Z"⟩, 13), (⟨"FireEnginesModel", "houseAt", "(I)I"⟩, 13), (⟨"FireEnginesModel", "ho", "(II)I"⟩, 13), (⟨"FireEnginesModel", "pondAt", "(I)I"⟩, 13), (⟨"FireEnginesModel", "en", "(II)I"⟩, 13), (⟨"FireEnginesModel", "isHouse", "(I)Z"⟩, 13), (⟨"FireEnginesModel", "setHo", "(III)V"⟩, 13)]
theorem lw_r2 : ∀ q ∈ lw_privs_2, lw_okq q := List.forall_mem_cons.mpr ⟨lw_p16, List.forall_mem_cons.mpr ⟨lw_p17, List.forall_mem_cons.mpr ⟨lw_p18, List.forall_mem_cons.mpr ⟨lw_p19, List.forall_mem_cons.mpr ⟨lw_p20, List.forall_mem_cons.mpr ⟨lw_p21, List.forall_mem_cons.mpr ⟨lw_p22, List.forall_mem_cons.mpr ⟨lw_p23, List.forall_mem_cons.mpr ⟨lw_p24, List.forall_mem_cons.mpr ⟨lw_p25, List.forall_mem_cons.mpr ⟨lw_p26, List.forall_mem_cons.mpr ⟨lw_p27, List.forall_mem_cons.mpr ⟨lw_p28, List.forall_mem_cons.mpr ⟨lw_p29, List.forall_mem_cons.mpr ⟨lw_p30, List.forall_mem_cons.mpr ⟨lw_p31, fun _ h => absurd h List.not_mem_nil⟩⟩⟩⟩⟩⟩⟩⟩⟩⟩⟩⟩⟩⟩⟩⟩
theorem lw_p32 : lw_okq (⟨"FireEnginesModel", "with", "(I)I"⟩, 13) := ⟨⟨by decide +kernel, by decide +kernel⟩, List.mem_of_getElem? (i := 789) (by decide +kernel), List.mem_of_getElem? (i := 895) (by decide +kernel), List.mem_of_getElem? (i := 896) (by decide +kernel)⟩
theorem lw_p33 : lw_okq (⟨"FireEnginesModel", "heatNear", "(I)I"⟩, 13) := ⟨⟨by decide +kernel, by decide +kernel⟩, List.mem_of_getElem? (i := 789) (by decide +kernel), List.mem_of_getElem? (i := 903) (by decide +kernel), List.mem_of_getElem? (i := 904) (by decide +kernel)⟩
theorem lw_p34 : lw_okq (⟨"FireEnginesModel", "isEngine", "(I)Z"⟩, 13) := ⟨⟨by decide +kernel, by decide +kernel⟩, List.mem_of_getElem? (i := 789) (by decide +kernel), List.mem_of_getElem? (i := 929) (by decide +kernel), List.mem_of_getElem? (i := 930) (by decide +kernel)⟩
theorem lw_p35 : lw_okq (⟨"FireEnginesModel", "setEn", "(III)V"⟩, 13) := ⟨⟨by decide +kernel, by decide +kernel⟩, List.mem_of_getElem? (i := 789) (by decide +kernel), List.mem_of_getElem? (i := 933) (by decide +kernel), List.mem_of_getElem? (i := 934) (by decide +kernel)⟩
theorem lw_p36 : lw_okq (⟨"FireEnginesModel", "way", "(II)I"⟩, 13) := ⟨⟨by decide +kernel, by decide +kernel⟩, List.mem_of_getElem? (i := 789) (by decide +kernel), List.mem_of_getElem? (i := 941) (by decide +kernel), List.mem_of_getElem? (i := 942) (by decide +kernel)⟩
theorem lw_p37 : lw_okq (⟨"FireEnginesModel", "stands", "(I)Z"⟩, 13) := ⟨⟨by decide +kernel, by decide +kernel⟩, List.mem_of_getElem? (i := 789) (by decide +kernel), List.mem_of_getElem? (i := 952) (by decide +kernel), List.mem_of_getElem? (i := 953) (by decide +kernel)⟩
theorem lw_p38 : lw_okq (⟨"FireEnginesModel", "leads", "(II)Z"⟩, 13) := ⟨⟨by decide +kernel, by decide +kernel⟩, List.mem_of_getElem? (i := 789) (by decide +kernel), List.mem_of_getElem? (i := 956) (by decide +kernel), List.mem_of_getElem? (i := 957) (by decide +kernel)⟩
theorem lw_p39 : lw_okq (⟨"FireEnginesModel", "engineTold", "(II)I"⟩, 13) := ⟨⟨by decide +kernel, by decide +kernel⟩, List.mem_of_getElem? (i := 789) (by decide +kernel), List.mem_of_getElem? (i := 972) (by decide +kernel), List.mem_of_getElem? (i := 973) (by decide +kernel)⟩
theorem lw_p40 : lw_okq (⟨"FireEnginesModel", "source", "(I)I"⟩, 13) := ⟨⟨by decide +kernel, by decide +kernel⟩, List.mem_of_getElem? (i := 789) (by decide +kernel), List.mem_of_getElem? (i := 976) (by decide +kernel), List.mem_of_getElem? (i := 977) (by decide +kernel)⟩
theorem lw_p41 : lw_okq (⟨"FireEnginesModel", "canPump", "(I)I"⟩, 13) := ⟨⟨by decide +kernel, by decide +kernel⟩, List.mem_of_getElem? (i := 789) (by decide +kernel), List.mem_of_getElem? (i := 980) (by decide +kernel), List.mem_of_getElem? (i := 981) (by decide +kernel)⟩
theorem lw_p42 : lw_okq (⟨"FireEnginesModel", "minuteOn", "()I"⟩, 13) := ⟨⟨by decide +kernel, by decide +kernel⟩, List.mem_of_getElem? (i := 789) (by decide +kernel), List.mem_of_getElem? (i := 992) (by decide +kernel), List.mem_of_getElem? (i := 993) (by decide +kernel)⟩
theorem lw_p43 : lw_okq (⟨"FireEnginesModel", "pumpAll", "()V"⟩, 13) := ⟨⟨by decide +kernel, by decide +kernel⟩, List.mem_of_getElem? (i := 789) (by decide +kernel), List.mem_of_getElem? (i := 998) (by decide +kernel), List.mem_of_getElem? (i := 999) (by decide +kernel)⟩
theorem lw_p44 : lw_okq (⟨"FireEnginesModel", "next", "()I"⟩, 13) := ⟨⟨by decide +kernel, by decide +kernel⟩, List.mem_of_getElem? (i := 789) (by decide +kernel), List.mem_of_getElem? (i := 1002) (by decide +kernel), List.mem_of_getElem? (i := 1003) (by decide +kernel)⟩
theorem lw_p45 : lw_okq (⟨"FireEnginesModel", "pump", "(I)V"⟩, 13) := ⟨⟨by decide +kernel, by decide +kernel⟩, List.mem_of_getElem? (i := 789) (by decide +kernel), List.mem_of_getElem? (i := 1006) (by decide +kernel), List.mem_of_getElem? (i := 1007) (by decide +kernel)⟩
theorem lw_p46 : lw_okq (⟨"FireEnginesModel", "burn", "(I)V"⟩, 13) := ⟨⟨by decide +kernel, by decide +kernel⟩, List.mem_of_getElem? (i := 789) (by decide +kernel), List.mem_of_getElem? (i := 1010) (by decide +kernel), List.mem_of_getElem? (i := 1011) (by decide +kernel)⟩
theorem lw_p47 : lw_okq (⟨"FireEnginesModel", "counted", "(I)I"⟩, 13) := ⟨⟨by decide +kernel, by decide +kernel⟩, List.mem_of_getElem? (i := 789) (by decide +kernel), List.mem_of_getElem? (i := 1018) (by decide +kernel), List.mem_of_getElem? (i := 1019) (by decide +kernel)⟩
def lw_privs_3 : List (MethodName × Nat) := [(⟨"FireEnginesModel", "with", "(I)I"⟩, 13), (⟨"FireEnginesModel", "heatNear", "(I)I"⟩, 13), (⟨"FireEnginesModel", "isEngine", "(I)Z"⟩, 13), (⟨"FireEnginesModel", "setEn", "(III)V"⟩, 13), (⟨"FireEnginesModel", "way", "(II)I"⟩, 13), (⟨"FireEnginesModel", "stands", "(I)Z"⟩, 13), (⟨"FireEnginesModel", "leads", "(II)Z"⟩, 13), (⟨"FireEnginesModel", "engineTold", "(II)I"⟩, 13), (⟨"FireEnginesModel", "source", "(I)I"⟩, 13), (⟨"FireEnginesModel", "canPump", "(I)I"⟩, 13), (⟨"FireEnginesModel", "minuteOn", "()I"⟩, 13), (⟨"FireEnginesModel", "pumpAll", "()V"⟩, 13), (⟨"FireEnginesModel", "next", "()I"⟩, 13), (⟨"FireEnginesModel", "pump", "(I)V"⟩, 13), (⟨"FireEnginesModel", "burn", "(I)V"⟩, 13), (⟨"FireEnginesModel", "counted", "(I)I"⟩, 13)]
theorem lw_r3 : ∀ q ∈ lw_privs_3, lw_okq q := List.forall_mem_cons.mpr ⟨lw_p32, List.forall_mem_cons.mpr ⟨lw_p33, List.forall_mem_cons.mpr ⟨lw_p34, List.forall_mem_cons.mpr ⟨lw_p35, List.forall_mem_cons.mpr ⟨lw_p36, List.forall_mem_cons.mpr ⟨lw_p37, List.forall_mem_cons.mpr ⟨lw_p38, List.forall_mem_cons.mpr ⟨lw_p39, List.forall_mem_cons.mpr ⟨lw_p40, List.forall_mem_cons.mpr ⟨lw_p41, List.forall_mem_cons.mpr ⟨lw_p42, List.forall_mem_cons.mpr ⟨lw_p43, List.forall_mem_cons.mpr ⟨lw_p44, List.forall_mem_cons.mpr ⟨lw_p45, List.forall_mem_cons.mpr ⟨lw_p46, List.forall_mem_cons.mpr ⟨lw_p47, fun _ h => absurd h List.not_mem_nil⟩⟩⟩⟩⟩⟩⟩⟩⟩⟩⟩⟩⟩⟩⟩⟩
theorem lw_p48 : lw_okq (⟨"FireEnginesModel", "kept", "()[[I"⟩, 13) := ⟨⟨by decide +kernel, by decide +kernel⟩, List.mem_of_getElem? (i := 789) (by decide +kernel), List.mem_of_getElem? (i := 1026) (by decide +kernel), List.mem_of_getElem? (i := 1027) (by decide +kernel)⟩
theorem lw_p49 : lw_okq (⟨"FireEnginesModel", "bringBack", "([[I)V"⟩, 13) := ⟨⟨by decide +kernel, by decide +kernel⟩, List.mem_of_getElem? (i := 789) (by decide +kernel), List.mem_of_getElem? (i := 1038) (by decide +kernel), List.mem_of_getElem? (i := 1039) (by decide +kernel)⟩
def lw_privs_4 : List (MethodName × Nat) := [(⟨"FireEnginesModel", "kept", "()[[I"⟩, 13), (⟨"FireEnginesModel", "bringBack", "([[I)V"⟩, 13)]
theorem lw_r4 : ∀ q ∈ lw_privs_4, lw_okq q := List.forall_mem_cons.mpr ⟨lw_p48, List.forall_mem_cons.mpr ⟨lw_p49, fun _ h => absurd h List.not_mem_nil⟩⟩
def lw_privs : List (MethodName × Nat) := lw_privs_1 ++ (lw_privs_2 ++ (lw_privs_3 ++ (lw_privs_4)))
def lw_tbl : List Cond := k2_sels lw_privs ++ tables_1
theorem lw_privs_ok : ∀ q ∈ lw_privs, lw_okq q := by
  show ∀ q ∈ lw_privs_1 ++ (lw_privs_2 ++ (lw_privs_3 ++ (lw_privs_4))), lw_okq q
  exact List.forall_mem_append.mpr ⟨lw_r1, List.forall_mem_append.mpr ⟨lw_r2, List.forall_mem_append.mpr ⟨lw_r3, lw_r4⟩⟩⟩
/-- the streams that the claim lets the run draw from -/
abbrev lw_cs : List Choice := [Jvm.Choice.named "NaN.bits"]
theorem lw_bits : nanBits ∈ lw_cs := by first | decide | exact List.mem_cons_self | simp [lw_cs, nanBits]
end
section
/-! ===== BEGIN words of one list among another's, by their places ===== -/
theorem goodIn_r {big : List Cond} (ws : List Cond) (ps : List Nat) (hp : ws = ps.filterMap (fun i => big[i]?)) (h : ws.all goodWord = true) : GoodIn big ws := by
  intro w hw
  have h1 := List.all_eq_true.mp h w hw
  rw [hp] at hw
  obtain ⟨i, -, hi⟩ := List.mem_filterMap.mp hw
  have hm : w ∈ big := by first | exact List.mem_of_getElem? hi | exact List.getElem?_mem hi
  exact ⟨hm, good_of_word h1⟩
theorem goodIn_app {big a b : List Cond} (ha : GoodIn big a) (hb : GoodIn big b) : GoodIn big (a ++ b) := fun w h => (List.mem_append.mp h).elim (ha w) (hb w)
theorem goodIn_ca {big a b : List Cond} {c : Cond} (ha : GoodIn big (c :: a)) (hb : GoodIn big b) : GoodIn big (c :: (a ++ b)) := fun w h => (List.mem_cons.mp h).elim (fun e => ha w (List.mem_cons.mpr (Or.inl e))) (fun h => (List.mem_append.mp h).elim (fun h => ha w (List.mem_cons.mpr (Or.inr h))) (hb w))
theorem goodIn_sub {big ws : List Cond} (hm : ∀ w ∈ ws, w ∈ big) (h : ws.all goodWord = true) : GoodIn big ws := fun w hw => ⟨hm w hw, good_of_word (List.all_eq_true.mp h w hw)⟩
/-! ===== END ===== -/

/-! ===== BEGIN exceptions that leave a method, and their catching by the caller (launches without stack traces) ===== -/
section VXA
/-! The laws vx_back, vx_callV, vx_callS, vx_callSW, vx_throw0, vx_throwS follow proofs of the library, with one case more: JvmDerived/Free/Laws.lean (Back.of_free), Shelf42/LK1.lean (callV, callS), Shelf/KitTraced.lean (throwNew0V, throwNewS). -/
/-- where a method has thrown q: the class by its name, the cell, what was written, the world -/
def vx_T (XC : String → State → State → Prop) (st : State) (q : Addr) (t : State) (mc ms : Nat) (free : Addr → Prop) : Prop :=
  ∃ (E : String) (ce : Cell) (L : List Loc), XC E st t ∧ t.heap[q]? = some ce ∧ ce.vm = .none ∧ st.vm.findClass E = some ce.cls ∧ st.WarmedH t.vm ∧ st.sameButNew ({ t with vm := st.vm } : State) L mc ms ∧ ∀ z ∈ L, free z.base
def vx_Q (Qc : Array Value → State → Outcome → State → Prop) (XC : String → State → State → Prop) (mc ms : Nat) (free : Addr → Prop) : Array Value → State → Outcome → State → Prop := fun a st o t =>
  (Qc a st o t ∧ ∃ L, FrameEnd st o t L mc ms ∧ ∀ q ∈ L, free q.base) ∨ ∃ q, o = .threw q ∧ vx_T XC st q t mc ms free
/-- a callee that returns or throws -/
def vx_Met (l : Launch) (y : MethodName) (ws : List Cond) (rm : Room) (Pc : Array Value → State → Prop) (Qc : Array Value → State → Outcome → State → Prop) (XC : String → State → State → Prop) (mc ms : Nat) (free : Addr → Prop) : Prop :=
  MetFree l y (headSpec ws rm) Pc (fun _ _ _ _ _ => True) (vx_Q Qc XC mc ms free)
def vx_Post (XC : String → State → State → Prop) (mc ms : Nat) (free : Addr → Prop) : Pt → Array Value → Addr → Pt → Prop := fun A a q B =>
  ∃ (g : JFrame) (mk : MethodId) (t : State) (L : List Loc) (E : String) (ce : Cell), B.U.heap = t.heap ∧ B.U.vm = t.vm ∧ XC E (A.U.calling g mk a) t ∧ t.heap[q]? = some ce ∧ ce.vm = .none ∧ A.U.vm.findClass E = some ce.cls ∧ B.locs = A.locs ++ L ∧ (∀ z ∈ L, free z.base) ∧ B.cells = A.cells + mc ∧ B.slots = A.slots + ms
def vx_Back (l : Launch) (R : Room) (p : Program) (e : Env) (below : List Frame) (s : State) (sargs : Array Value) (y : MethodName) (len W9 : Nat)
    (Pre : Pt → Array Value → Prop) (Post : Pt → Array Value → Option Value → Pt → Prop) (PostX : Pt → Array Value → Addr → Pt → Prop) : Prop :=
  ∀ (m : MethodId) (meth : Method) (c : Code) (A : Pt) (g : JFrame) (ig : Instr) (mk : MethodId) (a : Array Value),
    Stand p l e R s m sargs below meth c A.U A.locs A.cells A.slots → g.method = m → g.locals.size = c.maxLocals → decode c.code g.pc = .ok (ig, len) →
    2 * g.monitorRoom + (g.stack.map fun v => v.category).sum ≤ W9 → A.U.methodNamed? y = some mk → Pre A a →
    (∃ (v : Option Value) (B : Pt), Stand p l e R s m sargs below meth c B.U B.locs B.cells B.slots ∧ Post A a v B ∧
      Steps p.tables e below (doInvoke e (A.U.setTop g) [] mk a).1 (B.U.setTop { g with pc := g.pc + len, stack := v.toList ++ g.stack })) ∨
    (∃ (q : Addr) (B : Pt), Stand p l e R s m sargs below meth c B.U B.locs B.cells B.slots ∧ PostX A a q B ∧
      Steps p.tables e below (doInvoke e (A.U.setTop g) [] mk a).1 ((B.U.setTop g).pushFrame (.throwing q)))
section Payer
variable {l : Launch} {R : Room} {p : Program} {e : Env} {below : List Frame} {s : State} {sargs : Array Value} {y : MethodName} {len W9 : Nat}
theorem vx_back {ws : List Cond} {rm : Room} {Pc : Array Value → State → Prop} {Qc : Array Value → State → Outcome → State → Prop} {XC : String → State → State → Prop} {mc ms : Nat} {free : Addr → Prop} {bytes : ByteArray} {maxL : Nat} {ret : Option FieldType}
    (hM : vx_Met l y ws rm Pc Qc XC mc ms free) (hblind : FrameBlind Pc) (hrc : rm.cells = mc) (hrs : rm.slots = ms)
    (hframes : rm.frames + 1 ≤ R.frames) (hlocals : W9 + (maxL + 11) + rm.locals ≤ R.locals)
    (hws : ∀ w ∈ ws, ∀ a' U, s.WarmedH U.vm → w.before a' U = true) (hcode : Cond.code y bytes maxL ret ∈ ws) (hinit : ∀ a' U, s.WarmedH U.vm → (Cond.initialized y.cls).before a' U = true) :
    vx_Back l R p e below s sargs y len W9 (PreOf R mc ms Pc) (PostOf Qc mc ms free) (vx_Post XC mc ms free) := by
  intro m meth c A g ig mk a X hg hsize hdg hW hn hp
  have h1 : (headSpec ws rm).pre.before a A.U = true := atoms_intro fun w hw => hws w hw _ _ X.warmed
  have h2 : (Cond.code y bytes maxL ret).before a A.U = true := hws _ hcode _ _ X.warmed
  have h3 : (Cond.initialized y.cls).before a A.U = true := hinit _ _ X.warmed
  have h4 : A.cells + (headSpec ws rm).room.cells ≤ R.cells := by rw [show (headSpec ws rm).room.cells = mc from hrc]; exact hp.1
  have h5 : A.slots + (headSpec ws rm).room.slots ≤ R.slots := by rw [show (headSpec ws rm).room.slots = ms from hrs]; exact hp.2.1
  have hPc : Pc a (A.U.calling g mk a) := hblind _ _ _ _ hp.2.2
  obtain ⟨U, Ls, c0, s0⟩ := A
  dsimp only [Pt.U, Pt.locs, Pt.cells, Pt.slots] at h1 h2 h3 h4 h5 X hn hPc ⊢
  obtain ⟨methY, cY, hmY, hcY, -, hlY, -, -, -, -⟩ := Cond.code_spec hn h2
  obtain ⟨kY, hkY, -⟩ := className_of_methodNamed hn
  have hinitY : kY.init = .initialized := Cond.initialized_spec (findClass_of_methodNamed hn) hkY h3
  have h : At U g.method c below := by rw [hg]; exact X.here
  have hlocals9 : W9 + (maxL + 11) + (headSpec ws rm).room.locals ≤ R.locals := hlocals
  have happ : (headSpec ws rm).appliesLoose y e.platform (U.calling g mk a) = true :=
    Spec.appliesLoose_calling (g := g) h hdg hn hkY hinitY
      (X.room_calling (g := g) (R' := (headSpec ws rm).room) hsize hmY hcY hframes (by rw [hlY]; omega) h4 h5) h1
  obtain ⟨mid, hmid⟩ := h.above
  have hfr : (U.setTop g).frames = (.java g :: mid) ++ below := by rw [State.frames_setTop' g h.top, hmid]; rfl
  obtain ⟨o, s₂, hsteps, -, hend, hq⟩ := Steps.callFree hM p X.admits X.cas X.clock (acts := []) hfr happ hPc trivial
  have hq' : vx_Q Qc XC mc ms free a (U.calling g mk a) o s₂ := hq
  rw [State.frames_setTop' g h.top] at hend
  obtain ⟨g₀, hg0⟩ := Option.isSome_iff_exists.mp h.top
  obtain ⟨r, hr⟩ := State.topJava?_eq_some.mp hg0
  have hr' : (({ U with heap := s₂.heap, slotsUsed := s₂.slotsUsed } : State).setVm s₂.vm).frames = .java g₀ :: r := hr
  rcases hq' with ⟨hqc, L, hfe, hL⟩ | ⟨q, rfl, E, ce, L, hx, hce, hcv, hcl, hW₂, hsm, hL⟩
  · obtain ⟨⟨v, rfl⟩, hW₂, e2, q2, q3, q4, q5, q6⟩ := id hfe
    have e3 : s₂ = ({ (U.calling g mk a).setFrames s₂.frames with heap := s₂.heap, slotsUsed := s₂.slotsUsed } : State).setVm s₂.vm := by
      have : s₂ = ({ s₂ with vm := (U.calling g mk a).vm } : State).setVm s₂.vm := rfl
      rw [e2] at this
      exact this
    obtain ⟨c₂, i₂, len₂, hc₂, hd₂, hf₂⟩ := hend
    have hW' : U.WarmedH s₂.vm := hW₂
    have hcc : c₂ = c := by
      have h1 : s₂.code? g.method = U.code? g.method := by
        rw [State.code?_eq, State.code?_eq, hW'.alike.method?]
      exact Option.some.inj (hc₂.symm.trans (h1.trans h.code))
    subst hcc
    have hlen : len₂ = len := by rw [hdg] at hd₂; cases hd₂; rfl
    subst hlen
    have hs₂ : s₂ = (({ U with heap := s₂.heap, slotsUsed := s₂.slotsUsed } : State).setVm s₂.vm).setTop { g with pc := g.pc + len₂, stack := v.toList ++ g.stack } := by
      refine e3.trans ?_
      rw [hf₂, State.calling_eq h.top, State.setFrames_setFrames, State.setTop_of_frames _ hr', hr]
      rfl
    have hsame : U.sameButNew ({ U with heap := s₂.heap, slotsUsed := s₂.slotsUsed } : State) L mc ms := by
      refine ⟨?_, q2, q3, q4, q5, q6⟩
      obtain ⟨t, ht, -⟩ := State.frames_cons hr
      show ({ U with heap := s₂.heap, slotsUsed := s₂.slotsUsed } : State) = { U.setFrames U.frames with heap := s₂.heap, slotsUsed := s₂.slotsUsed }
      rw [State.setFrames_self ht]
    subst hg
    refine Or.inl ⟨v, ⟨(({ U with heap := s₂.heap, slotsUsed := s₂.slotsUsed } : State).setVm s₂.vm), Ls ++ L, c0 + mc, s0 + ms⟩,
      ⟨X.admits, X.cas, X.clock, X.frames, X.room, X.hears, X.method, X.code, (X.here.setHeapUsed s₂.heap s₂.slotsUsed).setVm hW'.alike, X.tail, State.WarmedH.trans X.warmed hW', X.limits, X.bytes, X.same.trans (hsame.setVm s.vm)⟩,
      ⟨g, mk, s₂, L, rfl, rfl, hqc, rfl, hL, rfl, rfl⟩, ?_⟩
    show Steps p.tables e below _ ((({ U with heap := s₂.heap, slotsUsed := s₂.slotsUsed } : State).setVm s₂.vm).setTop { g with pc := g.pc + len₂, stack := v.toList ++ g.stack })
    rw [← hs₂]
    exact hsteps
  · obtain ⟨e2, q2, q3, q4, q5, q6⟩ := id hsm
    have e3 : s₂ = ({ (U.calling g mk a).setFrames s₂.frames with heap := s₂.heap, slotsUsed := s₂.slotsUsed } : State).setVm s₂.vm := by
      have : s₂ = ({ s₂ with vm := (U.calling g mk a).vm } : State).setVm s₂.vm := rfl
      rw [e2] at this
      exact this
    have hf₂ : s₂.frames = .throwing q :: .java g :: U.frames.tail := hend
    have hW' : U.WarmedH s₂.vm := hW₂
    have hs₂ : s₂ = ((({ U with heap := s₂.heap, slotsUsed := s₂.slotsUsed } : State).setVm s₂.vm).setTop g).pushFrame (.throwing q) := by
      refine e3.trans ?_
      rw [hf₂, State.calling_eq h.top, State.setFrames_setFrames, State.pushFrame, State.frames_setTop _ hr', State.setTop_of_frames _ hr', State.setFrames_setFrames, hr]
      rfl
    have hsame : U.sameButNew ({ U with heap := s₂.heap, slotsUsed := s₂.slotsUsed } : State) L mc ms := by
      refine ⟨?_, q2, q3, q4, q5, q6⟩
      obtain ⟨t, ht, -⟩ := State.frames_cons hr
      show ({ U with heap := s₂.heap, slotsUsed := s₂.slotsUsed } : State) = { U.setFrames U.frames with heap := s₂.heap, slotsUsed := s₂.slotsUsed }
      rw [State.setFrames_self ht]
    subst hg
    refine Or.inr ⟨q, ⟨(({ U with heap := s₂.heap, slotsUsed := s₂.slotsUsed } : State).setVm s₂.vm), Ls ++ L, c0 + mc, s0 + ms⟩,
      ⟨X.admits, X.cas, X.clock, X.frames, X.room, X.hears, X.method, X.code, (X.here.setHeapUsed s₂.heap s₂.slotsUsed).setVm hW'.alike, X.tail, State.WarmedH.trans X.warmed hW', X.limits, X.bytes, X.same.trans (hsame.setVm s.vm)⟩,
      ⟨g, mk, s₂, L, E, ce, rfl, rfl, hx, hce, hcv, hcl, rfl, hL, rfl, rfl⟩, ?_⟩
    show Steps p.tables e below _ (((({ U with heap := s₂.heap, slotsUsed := s₂.slotsUsed } : State).setVm s₂.vm).setTop g).pushFrame (.throwing q))
    rw [← hs₂]
    exact hsteps
end Payer
section Calls
variable {p : Program} {l : Launch} {e : Env} {R : Room} {s : State} {m : MethodId} {args : Array Value} {below : List Frame} {meth : Method} {c : Code} {T : State} {locs : List Loc} {cells slots : Nat}
theorem vx_callV (X : Stand p l e R s m args below meth c T locs cells slots) (hexec : p.tables.exec = Jvm.exec) {own C : String} {index : Nat} {y : MethodName} {bytes : ByteArray} {maxL : Nat} {ret : Option FieldType}
    (hown : s.vm.findClass own = some m.cls) (hlink : (Cond.methodLink own index y).before args s = true) (hinst : (Cond.instanceMethod y).before args s = true) (hsel : (Cond.selects C y y).before args s = true)
    (hcode : (Cond.code y bytes maxL ret).before args s = true) (hy : y.cls ≠ "java/lang/invoke/MethodHandle" ∧ y.cls ≠ "java/lang/invoke/VarHandle")
    {W9 : Nat} {Pre : Pt → Array Value → Prop} {Post : Pt → Array Value → Option Value → Pt → Prop} {PostX : Pt → Array Value → Addr → Pt → Prop} (hK : vx_Back l R p e below s args y 3 W9 Pre Post PostX)
    {b : Addr} {cellB : Cell} (hcell : T.heap[b]? = some cellB) (hobj : cellB.vm.isStatics = false) (hcls : s.vm.findClass C = some cellB.cls)
    {g : JFrame} (hg : g.method = m) (hsize : g.locals.size = c.maxLocals) {argsL rest : List Value} (hlen : ∀ sig, parseMethodDescriptor y.desc = some sig → argsL.length = sig.parameters.length)
    (hstack : g.stack = argsL.reverse ++ .ref b :: rest) (hW : 2 * g.monitorRoom + (rest.map fun v => v.category).sum ≤ W9) (hdg : decode c.code g.pc = .ok (.invokevirtual index, 3))
    (hpre : ∀ vm₁, s.WarmedH vm₁ → Pre ⟨T.setVm vm₁, locs, cells, slots⟩ (Value.ref b :: argsL).toArray) :
    (∃ (v : Option Value) (vm₁ : Vm) (B : Pt), s.WarmedH vm₁ ∧ Stand p l e R s m args below meth c B.U B.locs B.cells B.slots ∧ Post ⟨T.setVm vm₁, locs, cells, slots⟩ (Value.ref b :: argsL).toArray v B ∧
      ∀ target, Steps p.tables e below (B.U.setTop { g with pc := g.pc + 3, stack := v.toList ++ rest }) target → Steps p.tables e below (T.setTop g) target) ∨
    (∃ (q : Addr) (vm₁ : Vm) (B : Pt), s.WarmedH vm₁ ∧ Stand p l e R s m args below meth c B.U B.locs B.cells B.slots ∧ PostX ⟨T.setVm vm₁, locs, cells, slots⟩ (Value.ref b :: argsL).toArray q B ∧
      Steps p.tables e below (T.setTop g) ((B.U.setTop { g with stack := rest }).pushFrame (.throwing q))) := by
  obtain ⟨mk, methM, hnamed, hmethM, hstM, habM⟩ := Cond.instanceMethod_spec hinst
  obtain ⟨methM', cM, hmethM', -, -, -, -, -, -, hsigM⟩ := Cond.code_spec hnamed hcode
  cases hmethM.symm.trans hmethM'
  obtain ⟨c2, r2, m2, q1, q2, q3, q4, kP, hkP, hkPi⟩ := Cond.selects_spec hsel
  cases hcls.symm.trans q1
  cases (State.methodFound?_of_named hnamed hy).symm.trans q2
  cases hnamed.symm.trans q3
  have hselP : selectMethod e.platform s.vm cellB.cls mk = .method mk := by rw [Launch.admits_selectMethod X.admits]; exact q4
  obtain ⟨vm₁, X₁, hstep₁⟩ := X.invokevirtual hexec hown hlink hnamed hmethM hstM hkP hkPi hy (a := b) (cell := cellB) hcell
    (fun z h => by rw [h] at hobj; cases hobj) hselP hmethM habM hkP hkPi (g := g) hg (argsL := argsL) (rest := rest) (hlen _ hsigM) hstack hdg
  rcases hK m meth c ⟨T.setVm vm₁, locs, cells, slots⟩ { g with stack := rest } (.invokevirtual index) mk (Value.ref b :: argsL).toArray X₁ hg hsize hdg hW (X₁.named hnamed) (hpre vm₁ X₁.warmed) with ⟨v, B, X', hpost, hsteps⟩ | ⟨q, B, X', hpost, hsteps⟩
  · exact Or.inl ⟨v, vm₁, B, X₁.warmed, X', hpost, fun target h => hstep₁ _ fun acts => by rw [doInvoke_state]; exact hsteps.trans h⟩
  · exact Or.inr ⟨q, vm₁, B, X₁.warmed, X', hpost, hstep₁ _ fun acts => by rw [doInvoke_state]; exact hsteps⟩
theorem vx_callS (X : Stand p l e R s m args below meth c T locs cells slots) (hexec : p.tables.exec = Jvm.exec) {own : String} {index : Nat} {y : MethodName} {bytes : ByteArray} {maxL : Nat} {ret : Option FieldType}
    (hown : s.vm.findClass own = some m.cls) (hlink : (Cond.methodLink own index y).before args s = true) (hstat : (Cond.static y).before args s = true) (hinit : (Cond.initialized y.cls).before args s = true)
    (hcode : (Cond.code y bytes maxL ret).before args s = true) (hy : y.cls ≠ "java/lang/invoke/MethodHandle" ∧ y.cls ≠ "java/lang/invoke/VarHandle")
    {W9 : Nat} {Pre : Pt → Array Value → Prop} {Post : Pt → Array Value → Option Value → Pt → Prop} {PostX : Pt → Array Value → Addr → Pt → Prop} (hK : vx_Back l R p e below s args y 3 W9 Pre Post PostX)
    {g : JFrame} (hg : g.method = m) (hsize : g.locals.size = c.maxLocals) {argsL rest : List Value} (hlen : ∀ sig, parseMethodDescriptor y.desc = some sig → argsL.length = sig.parameters.length)
    (hstack : g.stack = argsL.reverse ++ rest) (hW : 2 * g.monitorRoom + (rest.map fun v => v.category).sum ≤ W9) (hdg : decode c.code g.pc = .ok (.invokestatic index, 3))
    (hpre : ∀ vm₁, s.WarmedH vm₁ → Pre ⟨T.setVm vm₁, locs, cells, slots⟩ argsL.toArray) :
    (∃ (v : Option Value) (vm₁ : Vm) (B : Pt), s.WarmedH vm₁ ∧ Stand p l e R s m args below meth c B.U B.locs B.cells B.slots ∧ Post ⟨T.setVm vm₁, locs, cells, slots⟩ argsL.toArray v B ∧
      ∀ target, Steps p.tables e below (B.U.setTop { g with pc := g.pc + 3, stack := v.toList ++ rest }) target → Steps p.tables e below (T.setTop g) target) ∨
    (∃ (q : Addr) (vm₁ : Vm) (B : Pt), s.WarmedH vm₁ ∧ Stand p l e R s m args below meth c B.U B.locs B.cells B.slots ∧ PostX ⟨T.setVm vm₁, locs, cells, slots⟩ argsL.toArray q B ∧
      Steps p.tables e below (T.setTop g) ((B.U.setTop { g with stack := rest }).pushFrame (.throwing q))) := by
  obtain ⟨mk, hnamed⟩ := Cond.code_named hcode
  obtain ⟨methM, cM, hmethM, -, -, -, -, -, -, hsigM⟩ := Cond.code_spec hnamed hcode
  have hstatic : methM.isStatic = true := Cond.static_spec hnamed hmethM hstat
  obtain ⟨kP, hkP, -⟩ := className_of_methodNamed hnamed
  have hinitP : kP.init = .initialized := Cond.initialized_spec (findClass_of_methodNamed hnamed) hkP hinit
  obtain ⟨vm₁, X₁, hstep₁⟩ := X.invokestatic hexec hown hlink hnamed hmethM hstatic hkP hinitP hy (g := g) hg (argsL := argsL) (rest := rest) (hlen _ hsigM) hstack hdg
  rcases hK m meth c ⟨T.setVm vm₁, locs, cells, slots⟩ { g with stack := rest } (.invokestatic index) mk argsL.toArray X₁ hg hsize hdg hW (X₁.named hnamed) (hpre vm₁ X₁.warmed) with ⟨v, B, X', hpost, hsteps⟩ | ⟨q, B, X', hpost, hsteps⟩
  · exact Or.inl ⟨v, vm₁, B, X₁.warmed, X', hpost, fun target h => hstep₁ _ fun acts => by rw [doInvoke_state]; exact hsteps.trans h⟩
  · exact Or.inr ⟨q, vm₁, B, X₁.warmed, X', hpost, hstep₁ _ fun acts => by rw [doInvoke_state]; exact hsteps⟩
end Calls
theorem vx_cls {s : State} {T : State} {vm₁ : Vm} {E : String} {k : ClassId} (hW : s.WarmedH vm₁) (h : (T.setVm vm₁).vm.findClass E = some k) : s.vm.findClass E = some k := by
  have h1 : vm₁.findClass E = some k := h
  rw [hW.alike.findClass] at h1
  exact h1
/-- the method's frame g, with q thrown over it -/
def vx_W (p : Program) (l : Launch) (e : Env) (R : Room) (s : State) (m : MethodId) (args : Array Value) (below : List Frame) (meth : Method) (c : Code) (H : Heap) (locs : List Loc) (cells slots : Nat) (Q : State → Prop) (g : JFrame) (q : Addr) : Prop :=
  ∀ T : State, T.heap = H → Stand p l e R s m args below meth c T locs cells slots → ∃ t, Steps p.tables e below ((T.setTop g).pushFrame (.throwing q)) t ∧ Q t
def vx_Run (p : Program) (l : Launch) (e : Env) (R : Room) (s : State) (m : MethodId) (args : Array Value) (below : List Frame) (meth : Method) (c : Code) (H : Heap) (locs : List Loc) (cells slots mc ms : Nat) (g : JFrame) (rest : List Value) (Qa : State → Outcome → State → Prop) (XC : String → State → State → Prop) (free : Addr → Prop) : Prop :=
  ∀ T : State, T.heap = H → Stand p l e R s m args below meth c T locs cells slots →
    (∃ (v : Option Value) (st₀ t T' : State) (L : List Loc), st₀.heap = H ∧ Stand p l e R s m args below meth c T' (locs ++ L) (cells + mc) (slots + ms) ∧ (∀ q ∈ L, free q.base) ∧ T'.heap = t.heap ∧ T'.vm = t.vm ∧ Qa st₀ (.returned v) t ∧
      Goes p e below T g T' { g with pc := g.pc + 3, stack := v.toList ++ rest }) ∨
    (∃ (q : Addr) (st₀ t T' : State) (L : List Loc) (E : String) (ce : Cell), st₀.heap = H ∧ Stand p l e R s m args below meth c T' (locs ++ L) (cells + mc) (slots + ms) ∧ (∀ z ∈ L, free z.base) ∧ T'.heap = t.heap ∧ T'.vm = t.vm ∧ XC E st₀ t ∧ t.heap[q]? = some ce ∧ ce.vm = .none ∧ s.vm.findClass E = some ce.cls ∧
      Steps p.tables e below (T.setTop g) ((T'.setTop { g with stack := rest }).pushFrame (.throwing q)))
def vx_X {S : Type} (px : S → Prop) (B : String → S → State → Prop) (A : Nat → Prop) : String → State → State → Prop := fun E st t => ∃ u : S, px u ∧ B E u t ∧ va_F A st t
section Runs
variable {p : Program} {l : Launch} {e : Env} {R : Room} {s : State} {m : MethodId} {args : Array Value} {below : List Frame} {meth : Method} {c : Code} {H : Heap} {locs : List Loc} {cells slots : Nat}
variable {y : MethodName} {bytes cc : ByteArray} {maxL nL mc ms n index : Nat} {ret : Option FieldType} {ws : List Cond} {rm : Room} {Pc : Array Value → State → Prop} {Qc : Array Value → State → Outcome → State → Prop} {XC : String → State → State → Prop} {free : Addr → Prop} {Ts : List Cond} {own C : String} {b : Addr} {As rest : List Value} {g : JFrame}
theorem vx_callBack (cb : CallB R s args own index y bytes maxL ret ws rm mc ms n) (hM : vx_Met l y ws rm Pc Qc XC mc ms free) (hbl : FrameBlind Pc) : vx_Back l R p e below s args y 3 8 (PreOf R mc ms Pc) (PostOf Qc mc ms free) (vx_Post XC mc ms free) := by
  obtain ⟨hrc, hrs, hfr, hlo, hws, hcw, -, hini, -⟩ := cb
  exact vx_back (bytes := bytes) (maxL := maxL) (ret := ret) hM hbl hrc hrs hfr hlo hws hcw (fun a' U hW => word_at hW (Or.inl (by first | rfl | simp [Cond.onTables, Cond.keeps, Cond.steady])) hini)
theorem vx_runV (S : CallFix p m c cc nL s args Ts own) (hM : vx_Met l y ws rm Pc Qc XC mc ms free) (cw : CallW R s args own C index y bytes maxL ret ws rm mc ms n) (hp : PreV s H C b Pc As)
    (hg : g.method = m) (hn : As.length = n) (hsize : g.locals.size = nL) (hstack : g.stack = As.reverse ++ .ref b :: rest) (hW : 2 * g.monitorRoom + (rest.map fun v => v.category).sum ≤ 8) (hdg : decode cc g.pc = .ok (.invokevirtual index, 3)) (hf : cells + mc ≤ R.cells ∧ slots + ms ≤ R.slots) :
    vx_Run p l e R s m args below meth c H locs cells slots mc ms g rest (Qc (Value.ref b :: As).toArray) XC free := by
  have hK : vx_Back l R p e below s args y 3 8 (PreOf R mc ms Pc) (PostOf Qc mc ms free) (vx_Post XC mc ms free) := vx_callBack cw.1 hM hp.1
  obtain ⟨⟨-, -, -, -, -, -, hcode, -, hy, hlen, hl⟩, hin, hse⟩ := cw
  obtain ⟨hx, hb, hml, ho, -⟩ := S
  obtain ⟨-, ⟨cellB, hcB, hoB, hclB⟩, hPc⟩ := hp
  intro T hT X
  rcases vx_callV X hx (C := C) (bytes := bytes) (maxL := maxL) (ret := ret) ho hl hin hse hcode hy hK (by rw [hT]; exact hcB) hoB hclB hg (hsize.trans hml.symm) (argsL := As) (rest := rest) (fun sig h => hn.trans (hlen sig h)) hstack hW (by rw [hb]; exact hdg)
    (fun vm₁ hW₁ => ⟨hf.1, hf.2, hPc (T.setVm vm₁) hT hW₁⟩) with ⟨v, vm₁, ⟨U', l2, c2, s2⟩, hW₁, X', ⟨g', mk, t, L, e1, e2, hq, h1, hL, h2, h3⟩, st⟩ | ⟨q, vm₁, ⟨U', l2, c2, s2⟩, hW₁, X', ⟨g', mk, t, L, E, ce, e1, e2, hq, hce, hcv, hcl, h1, hL, h2, h3⟩, st⟩
  · dsimp only [Pt.U, Pt.locs, Pt.cells, Pt.slots] at X' e1 e2 h1 h2 h3 st
    subst h1; subst h2; subst h3
    exact Or.inl ⟨v, (T.setVm vm₁).calling g' mk (Value.ref b :: As).toArray, t, U', L, hT, X', hL, e1, e2, hq, st⟩
  · dsimp only [Pt.U, Pt.locs, Pt.cells, Pt.slots] at X' e1 e2 h1 h2 h3 st hcl
    subst h1; subst h2; subst h3
    exact Or.inr ⟨q, (T.setVm vm₁).calling g' mk (Value.ref b :: As).toArray, t, U', L, E, ce, hT, X', hL, e1, e2, hq, hce, hcv, vx_cls hW₁ hcl, st⟩
theorem vx_runS (S : CallFix p m c cc nL s args Ts own) (hM : vx_Met l y ws rm Pc Qc XC mc ms free) (cw : CallB R s args own index y bytes maxL ret ws rm mc ms n ∧ (Cond.static y).before args s = true) (hp : PreS s H Pc As)
    (hg : g.method = m) (hn : As.length = n) (hsize : g.locals.size = nL) (hstack : g.stack = As.reverse ++ rest) (hW : 2 * g.monitorRoom + (rest.map fun v => v.category).sum ≤ 8) (hdg : decode cc g.pc = .ok (.invokestatic index, 3)) (hf : cells + mc ≤ R.cells ∧ slots + ms ≤ R.slots) :
    vx_Run p l e R s m args below meth c H locs cells slots mc ms g rest (Qc As.toArray) XC free := by
  have hK : vx_Back l R p e below s args y 3 8 (PreOf R mc ms Pc) (PostOf Qc mc ms free) (vx_Post XC mc ms free) := vx_callBack cw.1 hM hp.1
  obtain ⟨⟨-, -, -, -, -, -, hcode, hini, hy, hlen, hl⟩, hstt⟩ := cw
  obtain ⟨hx, hb, hml, ho, -⟩ := S
  intro T hT X
  rcases vx_callS X hx (bytes := bytes) (maxL := maxL) (ret := ret) ho hl hstt hini hcode hy hK hg (hsize.trans hml.symm) (argsL := As) (rest := rest) (fun sig h => hn.trans (hlen sig h)) hstack hW (by rw [hb]; exact hdg)
    (fun vm₁ hW₁ => ⟨hf.1, hf.2, hp.2 (T.setVm vm₁) hT hW₁⟩) with ⟨v, vm₁, ⟨U', l2, c2, s2⟩, hW₁, X', ⟨g', mk, t, L, e1, e2, hq, h1, hL, h2, h3⟩, st⟩ | ⟨q, vm₁, ⟨U', l2, c2, s2⟩, hW₁, X', ⟨g', mk, t, L, E, ce, e1, e2, hq, hce, hcv, hcl, h1, hL, h2, h3⟩, st⟩
  · dsimp only [Pt.U, Pt.locs, Pt.cells, Pt.slots] at X' e1 e2 h1 h2 h3 st
    subst h1; subst h2; subst h3
    exact Or.inl ⟨v, (T.setVm vm₁).calling g' mk As.toArray, t, U', L, hT, X', hL, e1, e2, hq, st⟩
  · dsimp only [Pt.U, Pt.locs, Pt.cells, Pt.slots] at X' e1 e2 h1 h2 h3 st hcl
    subst h1; subst h2; subst h3
    exact Or.inr ⟨q, (T.setVm vm₁).calling g' mk As.toArray, t, U', L, E, ce, hT, X', hL, e1, e2, hq, hce, hcv, vx_cls hW₁ hcl, st⟩
end Runs
section Rows
variable {p : Program} {l : Launch} {e : Env} {R : Room} {s : State} {m : MethodId} {args : Array Value} {below : List Frame} {meth : Method} {c : Code} {H : Heap} {locs : List Loc} {cells slots : Nat} {Q : State → Prop}
variable {mc ms : Nat} {free : Addr → Prop} {A0 A1 : Nat → Prop} {H0 : Heap} {a : Array Value} {pc : Nat} {ls : Array Slot} {st0 rest : List Value}
theorem vx_keep {st₀ t T' : State} {L : List Loc} (h0 : st₀.heap = H) (e1 : T'.heap = t.heap) (hS : va_S A0 H0 H locs) (hA : ∀ q, q < H.size → A1 q → A0 q) (hf : ∀ q, free q → A0 q) (hL : ∀ q ∈ L, free q.base) (hF : va_F A1 st₀ t) :
    H.size ≤ T'.heap.size ∧ (∀ q : Nat, q < H.size → ¬ A1 q → T'.heap[q]? = H[q]?) ∧ va_S A0 H0 T'.heap (locs ++ L) := by
  obtain ⟨hz, hk⟩ := hF
  rw [h0] at hz hk
  exact ⟨by rw [e1]; exact hz, fun q h1 h2 => by rw [e1]; exact hk q h1 h2,
    ⟨Nat.le_trans hS.1 (by rw [e1]; exact hz), fun q h1 h2 => by rw [e1, hk q (Nat.lt_of_lt_of_le h1 hS.1) (fun z => h2 (hA q (Nat.lt_of_lt_of_le h1 hS.1) z))]; exact hS.2.1 q h1 h2, fun q hq => by
      rcases List.mem_append.mp hq with h | h
      · exact hS.2.2 q h
      · exact hf _ (hL q h)⟩⟩
theorem vx_calli {S SX : Type} {post : Int32 → S → Prop} {px : SX → Prop} {B : S → State → Prop} {BX : String → SX → State → Prop} {AX : Nat → Prop} (hr : vx_Run p l e R s m args below meth c H locs cells slots mc ms (F0 m pc ls st0) rest (va_Qi post B A1 a) (vx_X px BX AX) free) (hS : va_S A0 H0 H locs) (hA : ∀ q, q < H.size → A1 q → A0 q) (hf : ∀ q, free q → A0 q) (hAX : ∀ q, q < H.size → AX q → A0 q)
    (kx : ∀ (E : String) (ce : Cell) (q9 : Addr) (u : SX) (t : State) (H1 : Heap) (locs1 : List Loc), t.heap = H1 → s.vm.Alike t.vm → px u → BX E u t → H.size ≤ H1.size → (∀ q : Nat, q < H.size → ¬ AX q → H1[q]? = H[q]?) → va_S A0 H0 H1 locs1 → H1[q9]? = some ce → ce.vm = .none → s.vm.findClass E = some ce.cls → vx_W p l e R s m args below meth c H1 locs1 (cells + mc) (slots + ms) Q (F0 m pc ls rest) q9)
    (kk : ∀ (r : Int32) (u : S) (t : State) (H1 : Heap) (locs1 : List Loc), t.heap = H1 → s.vm.Alike t.vm → post r u → B u t → H.size ≤ H1.size → (∀ q : Nat, q < H.size → ¬ A1 q → H1[q]? = H[q]?) → va_S A0 H0 H1 locs1 → W p l e R s m args below meth c H1 locs1 (cells + mc) (slots + ms) Q (F0 m (pc + 3) ls (.int r :: rest))) : W p l e R s m args below meth c H locs cells slots Q (F0 m pc ls st0) := by
  intro T hT X
  rcases hr T hT X with ⟨v, st₀, t, T', L, h0, X', hL, e1, e2, ⟨⟨r, u, hv, hp, hb⟩, hF⟩, st⟩ | ⟨q, st₀, t, T', L, E, ce, h0, X', hL, e1, e2, ⟨u, hp, hb, hF⟩, hce, hcv, hcl, st⟩
  · cases hv
    obtain ⟨k1, k2, k3⟩ := vx_keep h0 e1 hS hA hf hL hF
    obtain ⟨t2, a1, b1⟩ := kk r u t T'.heap (locs ++ L) e1.symm (by rw [← e2]; exact X'.warmed.alike) hp hb k1 k2 k3 T' rfl X'
    exact ⟨t2, st t2 a1, b1⟩
  · obtain ⟨k1, k2, k3⟩ := vx_keep h0 e1 hS hAX hf hL hF
    obtain ⟨t2, a1, b1⟩ := kx E ce q u t T'.heap (locs ++ L) e1.symm (by rw [← e2]; exact X'.warmed.alike) hp hb k1 k2 k3 (by rw [e1]; exact hce) hcv hcl T' rfl X'
    exact ⟨t2, st.trans a1, b1⟩
theorem vx_calll {S SX : Type} {post : Int64 → S → Prop} {px : SX → Prop} {B : S → State → Prop} {BX : String → SX → State → Prop} {AX : Nat → Prop} (hr : vx_Run p l e R s m args below meth c H locs cells slots mc ms (F0 m pc ls st0) rest (va_Ql post B A1 a) (vx_X px BX AX) free) (hS : va_S A0 H0 H locs) (hA : ∀ q, q < H.size → A1 q → A0 q) (hf : ∀ q, free q → A0 q) (hAX : ∀ q, q < H.size → AX q → A0 q)
    (kx : ∀ (E : String) (ce : Cell) (q9 : Addr) (u : SX) (t : State) (H1 : Heap) (locs1 : List Loc), t.heap = H1 → s.vm.Alike t.vm → px u → BX E u t → H.size ≤ H1.size → (∀ q : Nat, q < H.size → ¬ AX q → H1[q]? = H[q]?) → va_S A0 H0 H1 locs1 → H1[q9]? = some ce → ce.vm = .none → s.vm.findClass E = some ce.cls → vx_W p l e R s m args below meth c H1 locs1 (cells + mc) (slots + ms) Q (F0 m pc ls rest) q9)
    (kk : ∀ (r : Int64) (u : S) (t : State) (H1 : Heap) (locs1 : List Loc), t.heap = H1 → s.vm.Alike t.vm → post r u → B u t → H.size ≤ H1.size → (∀ q : Nat, q < H.size → ¬ A1 q → H1[q]? = H[q]?) → va_S A0 H0 H1 locs1 → W p l e R s m args below meth c H1 locs1 (cells + mc) (slots + ms) Q (F0 m (pc + 3) ls (.long r :: rest))) : W p l e R s m args below meth c H locs cells slots Q (F0 m pc ls st0) := by
  intro T hT X
  rcases hr T hT X with ⟨v, st₀, t, T', L, h0, X', hL, e1, e2, ⟨⟨r, u, hv, hp, hb⟩, hF⟩, st⟩ | ⟨q, st₀, t, T', L, E, ce, h0, X', hL, e1, e2, ⟨u, hp, hb, hF⟩, hce, hcv, hcl, st⟩
  · cases hv
    obtain ⟨k1, k2, k3⟩ := vx_keep h0 e1 hS hA hf hL hF
    obtain ⟨t2, a1, b1⟩ := kk r u t T'.heap (locs ++ L) e1.symm (by rw [← e2]; exact X'.warmed.alike) hp hb k1 k2 k3 T' rfl X'
    exact ⟨t2, st t2 a1, b1⟩
  · obtain ⟨k1, k2, k3⟩ := vx_keep h0 e1 hS hAX hf hL hF
    obtain ⟨t2, a1, b1⟩ := kx E ce q u t T'.heap (locs ++ L) e1.symm (by rw [← e2]; exact X'.warmed.alike) hp hb k1 k2 k3 (by rw [e1]; exact hce) hcv hcl T' rfl X'
    exact ⟨t2, st.trans a1, b1⟩
theorem vx_callf {S SX : Type} {post : UInt32 → S → Prop} {px : SX → Prop} {B : S → State → Prop} {BX : String → SX → State → Prop} {AX : Nat → Prop} (hr : vx_Run p l e R s m args below meth c H locs cells slots mc ms (F0 m pc ls st0) rest (va_Qf post B A1 a) (vx_X px BX AX) free) (hS : va_S A0 H0 H locs) (hA : ∀ q, q < H.size → A1 q → A0 q) (hf : ∀ q, free q → A0 q) (hAX : ∀ q, q < H.size → AX q → A0 q)
    (kx : ∀ (E : String) (ce : Cell) (q9 : Addr) (u : SX) (t : State) (H1 : Heap) (locs1 : List Loc), t.heap = H1 → s.vm.Alike t.vm → px u → BX E u t → H.size ≤ H1.size → (∀ q : Nat, q < H.size → ¬ AX q → H1[q]? = H[q]?) → va_S A0 H0 H1 locs1 → H1[q9]? = some ce → ce.vm = .none → s.vm.findClass E = some ce.cls → vx_W p l e R s m args below meth c H1 locs1 (cells + mc) (slots + ms) Q (F0 m pc ls rest) q9)
    (kk : ∀ (r : UInt32) (u : S) (t : State) (H1 : Heap) (locs1 : List Loc), t.heap = H1 → s.vm.Alike t.vm → post r u → B u t → H.size ≤ H1.size → (∀ q : Nat, q < H.size → ¬ A1 q → H1[q]? = H[q]?) → va_S A0 H0 H1 locs1 → W p l e R s m args below meth c H1 locs1 (cells + mc) (slots + ms) Q (F0 m (pc + 3) ls (.float r :: rest))) : W p l e R s m args below meth c H locs cells slots Q (F0 m pc ls st0) := by
  intro T hT X
  rcases hr T hT X with ⟨v, st₀, t, T', L, h0, X', hL, e1, e2, ⟨⟨r, u, hv, hp, hb⟩, hF⟩, st⟩ | ⟨q, st₀, t, T', L, E, ce, h0, X', hL, e1, e2, ⟨u, hp, hb, hF⟩, hce, hcv, hcl, st⟩
  · cases hv
    obtain ⟨k1, k2, k3⟩ := vx_keep h0 e1 hS hA hf hL hF
    obtain ⟨t2, a1, b1⟩ := kk r u t T'.heap (locs ++ L) e1.symm (by rw [← e2]; exact X'.warmed.alike) hp hb k1 k2 k3 T' rfl X'
    exact ⟨t2, st t2 a1, b1⟩
  · obtain ⟨k1, k2, k3⟩ := vx_keep h0 e1 hS hAX hf hL hF
    obtain ⟨t2, a1, b1⟩ := kx E ce q u t T'.heap (locs ++ L) e1.symm (by rw [← e2]; exact X'.warmed.alike) hp hb k1 k2 k3 (by rw [e1]; exact hce) hcv hcl T' rfl X'
    exact ⟨t2, st.trans a1, b1⟩
theorem vx_calld {S SX : Type} {post : UInt64 → S → Prop} {px : SX → Prop} {B : S → State → Prop} {BX : String → SX → State → Prop} {AX : Nat → Prop} (hr : vx_Run p l e R s m args below meth c H locs cells slots mc ms (F0 m pc ls st0) rest (va_Qd post B A1 a) (vx_X px BX AX) free) (hS : va_S A0 H0 H locs) (hA : ∀ q, q < H.size → A1 q → A0 q) (hf : ∀ q, free q → A0 q) (hAX : ∀ q, q < H.size → AX q → A0 q)
    (kx : ∀ (E : String) (ce : Cell) (q9 : Addr) (u : SX) (t : State) (H1 : Heap) (locs1 : List Loc), t.heap = H1 → s.vm.Alike t.vm → px u → BX E u t → H.size ≤ H1.size → (∀ q : Nat, q < H.size → ¬ AX q → H1[q]? = H[q]?) → va_S A0 H0 H1 locs1 → H1[q9]? = some ce → ce.vm = .none → s.vm.findClass E = some ce.cls → vx_W p l e R s m args below meth c H1 locs1 (cells + mc) (slots + ms) Q (F0 m pc ls rest) q9)
    (kk : ∀ (r : UInt64) (u : S) (t : State) (H1 : Heap) (locs1 : List Loc), t.heap = H1 → s.vm.Alike t.vm → post r u → B u t → H.size ≤ H1.size → (∀ q : Nat, q < H.size → ¬ A1 q → H1[q]? = H[q]?) → va_S A0 H0 H1 locs1 → W p l e R s m args below meth c H1 locs1 (cells + mc) (slots + ms) Q (F0 m (pc + 3) ls (.double r :: rest))) : W p l e R s m args below meth c H locs cells slots Q (F0 m pc ls st0) := by
  intro T hT X
  rcases hr T hT X with ⟨v, st₀, t, T', L, h0, X', hL, e1, e2, ⟨⟨r, u, hv, hp, hb⟩, hF⟩, st⟩ | ⟨q, st₀, t, T', L, E, ce, h0, X', hL, e1, e2, ⟨u, hp, hb, hF⟩, hce, hcv, hcl, st⟩
  · cases hv
    obtain ⟨k1, k2, k3⟩ := vx_keep h0 e1 hS hA hf hL hF
    obtain ⟨t2, a1, b1⟩ := kk r u t T'.heap (locs ++ L) e1.symm (by rw [← e2]; exact X'.warmed.alike) hp hb k1 k2 k3 T' rfl X'
    exact ⟨t2, st t2 a1, b1⟩
  · obtain ⟨k1, k2, k3⟩ := vx_keep h0 e1 hS hAX hf hL hF
    obtain ⟨t2, a1, b1⟩ := kx E ce q u t T'.heap (locs ++ L) e1.symm (by rw [← e2]; exact X'.warmed.alike) hp hb k1 k2 k3 (by rw [e1]; exact hce) hcv hcl T' rfl X'
    exact ⟨t2, st.trans a1, b1⟩
theorem vx_callv {S SX : Type} {post : S → Prop} {px : SX → Prop} {B : S → State → Prop} {BX : String → SX → State → Prop} {AX : Nat → Prop} (hr : vx_Run p l e R s m args below meth c H locs cells slots mc ms (F0 m pc ls st0) rest (va_Qv post B A1 a) (vx_X px BX AX) free) (hS : va_S A0 H0 H locs) (hA : ∀ q, q < H.size → A1 q → A0 q) (hf : ∀ q, free q → A0 q) (hAX : ∀ q, q < H.size → AX q → A0 q)
    (kx : ∀ (E : String) (ce : Cell) (q9 : Addr) (u : SX) (t : State) (H1 : Heap) (locs1 : List Loc), t.heap = H1 → s.vm.Alike t.vm → px u → BX E u t → H.size ≤ H1.size → (∀ q : Nat, q < H.size → ¬ AX q → H1[q]? = H[q]?) → va_S A0 H0 H1 locs1 → H1[q9]? = some ce → ce.vm = .none → s.vm.findClass E = some ce.cls → vx_W p l e R s m args below meth c H1 locs1 (cells + mc) (slots + ms) Q (F0 m pc ls rest) q9)
    (kk : ∀ (u : S) (t : State) (H1 : Heap) (locs1 : List Loc), t.heap = H1 → s.vm.Alike t.vm → post u → B u t → H.size ≤ H1.size → (∀ q : Nat, q < H.size → ¬ A1 q → H1[q]? = H[q]?) → va_S A0 H0 H1 locs1 → W p l e R s m args below meth c H1 locs1 (cells + mc) (slots + ms) Q (F0 m (pc + 3) ls (rest))) : W p l e R s m args below meth c H locs cells slots Q (F0 m pc ls st0) := by
  intro T hT X
  rcases hr T hT X with ⟨v, st₀, t, T', L, h0, X', hL, e1, e2, ⟨⟨u, hv, hp, hb⟩, hF⟩, st⟩ | ⟨q, st₀, t, T', L, E, ce, h0, X', hL, e1, e2, ⟨u, hp, hb, hF⟩, hce, hcv, hcl, st⟩
  · cases hv
    obtain ⟨k1, k2, k3⟩ := vx_keep h0 e1 hS hA hf hL hF
    obtain ⟨t2, a1, b1⟩ := kk u t T'.heap (locs ++ L) e1.symm (by rw [← e2]; exact X'.warmed.alike) hp hb k1 k2 k3 T' rfl X'
    exact ⟨t2, st t2 a1, b1⟩
  · obtain ⟨k1, k2, k3⟩ := vx_keep h0 e1 hS hAX hf hL hF
    obtain ⟨t2, a1, b1⟩ := kx E ce q u t T'.heap (locs ++ L) e1.symm (by rw [← e2]; exact X'.warmed.alike) hp hb k1 k2 k3 (by rw [e1]; exact hce) hcv hcl T' rfl X'
    exact ⟨t2, st.trans a1, b1⟩
/-- caught by the row x of this method's table; the rows ahead don't take it -/
theorem vx_catch {own name : String} {E : String} {ce : Cell} {q : Addr} (hown : s.vm.findClass own = some m.cls) (pre : List ExceptionTableEntry) (x : ExceptionTableEntry) (suf : List ExceptionTableEntry) (hsplit : c.exceptionTable.toList = pre ++ x :: suf)
    (hpass : ∀ z ∈ pre, covers z pc = false ∨ (z.catchType ≠ 0 ∧ ∃ nm : String, (Cond.classLink own z.catchType nm).before args s = true ∧ va_Nc E nm s)) (hx : covers x pc = true) (h0 : x.catchType ≠ 0)
    (hlink : (Cond.classLink own x.catchType name).before args s = true) (hcast : (Cond.castable E name).before args s = true) (hcell : H[q]? = some ce) (hv : ce.vm = .none) (hcl : s.vm.findClass E = some ce.cls)
    (kk : W p l e R s m args below meth c H locs cells slots Q (F0 m x.handlerPc ls [.ref q])) : vx_W p l e R s m args below meth c H locs cells slots Q (F0 m pc ls rest) q := by
  intro T hT X
  have hpl : e.platform.magicAccessors = ({} : Platform).magicAccessors := by rw [X.admits.platform]
  obtain ⟨c3, c4, hc3, hc4, hasg⟩ := Cond.castable_spec hcast
  cases Option.some.inj (hc3.symm.trans hcl)
  obtain ⟨c5, hc5, hcl5⟩ := Cond.classLink_spec hown hlink e.platform hpl
  cases Option.some.inj (hc4.symm.trans hc5)
  obtain ⟨vm', X', st⟩ := X.thenCaughtThrough q (g := F0 m pc ls rest) rfl (Steps.refl _) (by rw [hT]; exact hcell) (by rw [hv]; rfl) (by obtain ⟨k9, h9, -⟩ := Vm.findClass_spec hcl; exact ⟨k9, h9⟩) pre x suf hsplit
    (fun z hz => by
      rcases hpass z hz with h | ⟨hz0, nm, hl1, hn1⟩
      · exact Or.inl h
      · obtain ⟨c6, hc6, hcl6⟩ := Cond.classLink_spec hown hl1 e.platform hpl
        obtain ⟨a8, b8, h1, h2, h3⟩ := hn1
        cases Option.some.inj (h1.symm.trans hcl)
        cases Option.some.inj (h2.symm.trans hc6)
        exact Or.inr ⟨hz0, _, hcl6, h3⟩) hx (Or.inr ⟨h0, c4, hcl5, hasg⟩)
  obtain ⟨t, a1, b1⟩ := kk (T.setVm vm') hT X'
  exact ⟨t, st.trans a1, b1⟩
end Rows
section Ends
variable {p : Program} {l : Launch} {e : Env} {R : Room} {s : State} {m : MethodId} {args : Array Value} {below : List Frame} {meth : Method} {c : Code} {H : Heap} {locs : List Loc} {cells slots : Nat} {Q : State → Prop}
variable {mc ms : Nat} {free : Addr → Prop} {A0 A1 : Nat → Prop} {H0 : Heap} {a : Array Value} {ls : Array Slot} {st0 rest : List Value}
variable {Qc : Array Value → State → Outcome → State → Prop} {XC : String → State → State → Prop}
/-- what a body that may throw owes at its end -/
def vx_MQ (below : List Frame) (Qc : Array Value → State → Outcome → State → Prop) (XC : String → State → State → Prop) (a : Array Value) (s : State) (mc ms : Nat) (free : Addr → Prop) : State → Prop := fun t =>
  ∃ o, t.status = .running ∧ Ended t below o ∧ vx_Q Qc XC mc ms free a s o t
theorem vx_ret {g : JFrame} {mc ms : Nat} (k : W p l e R s m args below meth c H locs cells slots (MQ below Qc args s mc ms free) g) : W p l e R s m args below meth c H locs cells slots (vx_MQ below Qc XC args s mc ms free) g := by
  intro T hT X
  obtain ⟨t, a1, o, b1, b2, b3, b4⟩ := k T hT X
  exact ⟨t, a1, o, b1, b2, Or.inl ⟨b3, b4⟩⟩
/-- not caught here: it goes on to the caller -/
theorem vx_widen {g : JFrame} {q : Addr} {k n : Nat} (h1 : cells ≤ k) (h2 : slots ≤ n) (kk : vx_W p l e R s m args below meth c H locs k n Q g q) : vx_W p l e R s m args below meth c H locs cells slots Q g q := fun T hT X => kk T hT (stand_widen X h1 h2)
theorem vx_out {pc : Nat} {E : String} {ce : Cell} {q : Addr} {mc ms : Nat} (hout : ∀ x ∈ c.exceptionTable.toList, covers x pc = false) (hlocks : meth.locks = false) (hcell : H[q]? = some ce) (hv : ce.vm = .none) (hcl : s.vm.findClass E = some ce.cls)
    (hx : ∀ t : State, t.heap = H → s.vm.Alike t.vm → XC E s t) (hf : ∀ z ∈ locs, free z.base) (hc : cells ≤ mc) (hs : slots ≤ ms) :
    vx_W p l e R s m args below meth c H locs cells slots (vx_MQ below Qc XC args s mc ms free) (F0 m pc ls rest) q := by
  intro T hT X
  obtain ⟨st1, hrun, hend, hW, hsm⟩ := X.leaveThrown q (g := F0 m pc ls rest) rfl rfl rfl hout hlocks
  have hcell9 : (T.setFrames (.throwing q :: below)).heap[q]? = some ce := by
    show T.heap[q]? = some ce
    rw [hT]; exact hcell
  exact ⟨_, st1, .threw q, hrun, hend, Or.inr ⟨q, rfl, E, ce, locs, hx _ hT hW.alike, hcell9, hv, hcl, hW, hsm.mono hc hs, hf⟩⟩
theorem vx_frame {U : State} {k n : Nat} (h : s.sameButNew ({ U with vm := s.vm } : State) locs k n) : s.heap.size ≤ U.heap.size ∧ ∀ q : Nat, q < s.heap.size → (∀ z ∈ locs, z.base ≠ q) → U.heap[q]? = s.heap[q]? := by
  obtain ⟨-, h2, -, -, -, h6⟩ := h
  refine ⟨h2, fun q hq hz => ?_⟩
  obtain ⟨c9, e1, e2, e3, e4⟩ := h6 q _ (Array.getElem?_eq_getElem hq)
  have hs : c9.slots = (s.heap[q]).slots := Array.ext_getElem? fun i => e4 i fun hm => hz _ hm rfl
  have h9 : c9 = s.heap[q] := by
    rw [hs] at e2
    exact e2
  have e5 : U.heap[q]? = some c9 := e1
  rw [e5, h9, Array.getElem?_eq_getElem hq]
/-- the words of a throw but the four that speak of the heap -/
def vx_no (w : Cond) : Bool := decide (w ≠ .isRef (.static Bundle.tN "UNASSIGNED_STACK" Bundle.steD)) && decide (w ≠ .isRef (.static Bundle.tN "SUPPRESSED_SENTINEL" Bundle.listD)) && decide (w ≠ .laysStatic Bundle.tN "UNASSIGNED_STACK" Bundle.steD) && decide (w ≠ .laysStatic Bundle.tN "SUPPRESSED_SENTINEL" Bundle.listD)
def vx_at0 (own : String) (ic : Nat) (X : String) (names : List String) : List Cond := (Bundle.ownAtoms0 own ic X names).filter vx_no
def vx_atS (own : String) (ic : Nat) (X : String) (names : List String) : List Cond := (Bundle.ownAtoms own ic X names).filter vx_no
/-- a word that the tables alone decide, or a good one -/
def vx_ot (w : Cond) : Bool := w.onTables || goodWord w
theorem vx_ot_at {args a' : Array Value} {s U : State} {w : Cond} (hW : s.WarmedH U.vm) (hvm : s.vm = U.vm) (hg : vx_ot w = true) (h : w.before args s = true) : w.before a' U = true := by
  simp only [vx_ot, Bool.or_eq_true] at hg
  rcases hg with hg | hg
  · exact va_tabs hg hvm h
  · exact word_at hW (good_of_word hg) h
/-- a list's words: the good ones out of the method's own list, the others by premises of their own -/
theorem vx_hat {args : Array Value} {s : State} {L B : List Cond} (h1 : ∀ w ∈ L.filter goodWord, w.before args s = true) (h2 : ∀ w ∈ L.filter (fun w => !goodWord w), w ∈ B) (h3 : ∀ w ∈ B, w.before args s = true) : ∀ w ∈ L, w.before args s = true := by
  intro w hw
  by_cases g : goodWord w = true
  · exact h1 w (List.mem_filter.mpr ⟨hw, g⟩)
  · refine h3 w (h2 w (List.mem_filter.mpr ⟨hw, ?_⟩))
    show (!goodWord w) = true
    cases hgw : goodWord w
    · rfl
    · exact absurd hgw g
theorem vx_c {args : Array Value} {s : State} {w : Cond} {B : List Cond} (h : w.before args s = true) (t : ∀ w ∈ B, w.before args s = true) : ∀ w' ∈ w :: B, w'.before args s = true := fun w' h' => (List.mem_cons.mp h').elim (fun e => by rw [e]; exact h) (t w')
theorem vx_n {args : Array Value} {s : State} : ∀ w ∈ ([] : List Cond), w.before args s = true := fun _ h => nomatch h
theorem vx_own {args : Array Value} {s : State} {L : List Cond} (h1 : ∀ w ∈ L.filter vx_no, w.before args s = true)
    (hU : (Cond.isRef (.static Bundle.tN "UNASSIGNED_STACK" Bundle.steD)).before args s = true) (hN : (Cond.isRef (.static Bundle.tN "SUPPRESSED_SENTINEL" Bundle.listD)).before args s = true)
    (lU : (Cond.laysStatic Bundle.tN "UNASSIGNED_STACK" Bundle.steD).before args s = true) (lN : (Cond.laysStatic Bundle.tN "SUPPRESSED_SENTINEL" Bundle.listD).before args s = true) : ∀ w ∈ L, w.before args s = true := by
  intro w hw
  by_cases e1 : w = .isRef (.static Bundle.tN "UNASSIGNED_STACK" Bundle.steD)
  · rw [e1]; exact hU
  · by_cases e2 : w = .isRef (.static Bundle.tN "SUPPRESSED_SENTINEL" Bundle.listD)
    · rw [e2]; exact hN
    · by_cases e3 : w = .laysStatic Bundle.tN "UNASSIGNED_STACK" Bundle.steD
      · rw [e3]; exact lU
      · by_cases e4 : w = .laysStatic Bundle.tN "SUPPRESSED_SENTINEL" Bundle.listD
        · rw [e4]; exact lN
        · exact h1 w (List.mem_filter.mpr ⟨hw, by unfold vx_no; rw [decide_eq_true e1, decide_eq_true e2, decide_eq_true e3, decide_eq_true e4]; rfl⟩)
/-- where a static field lies, its class's statics cell in H -/
def vx_L (C n d : String) (A : Nat → Prop) (U : State) (H : Heap) : Prop := ∃ (c : ClassId) (k : Class) (i : Nat) (f : Field) (a : Nat) (cell : Cell), U.vm.findClass C = some c ∧ U.fieldFound? C n d = some (c, k, i, f) ∧ f.isStatic = true ∧ k.statics = some a ∧ H[a]? = some cell ∧ cell.vm.isStatics = true ∧ cell.cls = c ∧ f.slot < cell.slots.size ∧ k.staticTypes[f.slot]? = some f.type ∧ ¬ A a
theorem vx_L.moved {C n d : String} {A : Nat → Prop} {u U : State} {H : Heap} (hvm : u.vm.Alike U.vm) (h : vx_L C n d A u H) : vx_L C n d A U H := by
  obtain ⟨c, k, i, f, a, cell, h1, h2, h3, h4, h5, h6, h7, h8, h9, h10⟩ := h
  obtain ⟨k', hi', he⟩ := State.fieldFound?_setVm hvm h2
  exact ⟨c, k', i, f, a, cell, by rw [hvm.findClass]; exact h1, hi', h3, by rw [he]; exact h4, h5, h6, h7, h8, by rw [he]; exact h9, h10⟩
theorem vx_L.kept {C n d : String} {A : Nat → Prop} {U : State} {H H1 : Heap} (h : vx_L C n d A U H) (hq : ∀ a : Nat, a < H.size → ¬ A a → H1[a]? = H[a]?) : vx_L C n d A U H1 := by
  obtain ⟨c, k, i, f, a, cell, h1, h2, h3, h4, h5, h6, h7, h8, h9, h10⟩ := h
  exact ⟨c, k, i, f, a, cell, h1, h2, h3, h4, by rw [hq a (Array.getElem?_eq_some_iff.mp h5).1 h10]; exact h5, h6, h7, h8, h9, h10⟩
theorem vx_L.narrow {C n d : String} {A B : Nat → Prop} {U : State} {H : Heap} (h : vx_L C n d A U H) (hAB : ∀ q, B q → A q) : vx_L C n d B U H := by
  obtain ⟨c, k, i, f, a, cell, h1, h2, h3, h4, h5, h6, h7, h8, h9, h10⟩ := h
  exact ⟨c, k, i, f, a, cell, h1, h2, h3, h4, h5, h6, h7, h8, h9, fun z => h10 (hAB _ z)⟩
theorem vx_L.word {C n d : String} {A : Nat → Prop} {s : State} {args : Array Value} (h : vx_L C n d A s s.heap) : (Cond.laysStatic C n d).before args s = true := by
  obtain ⟨c, k, i, f, a, cell, h1, h2, h3, h4, h5, h6, h7, h8, h9, -⟩ := h
  show (Cond.laysStatic C n d).holds args s none s [] = true
  exact Cond.laysStatic_of h1 h2 h3 h4 h5 h6 h7 h8 h9
/-- .. and what it holds: null or some reference -/
def vx_Zq (C n d : String) (A : Nat → Prop) (U : State) (H : Heap) : Prop := va_Zq C n d A U H ∧ vx_L C n d A U H
theorem vx_Zq.moved {C n d : String} {A : Nat → Prop} {u U : State} {H : Heap} (hvm : u.vm.Alike U.vm) (h : vx_Zq C n d A u H) : vx_Zq C n d A U H := ⟨va_Zq.moved hvm h.1, vx_L.moved hvm h.2⟩
theorem vx_Zq.kept {C n d : String} {A : Nat → Prop} {U : State} {H H1 : Heap} (h : vx_Zq C n d A U H) (hq : ∀ a : Nat, a < H.size → ¬ A a → H1[a]? = H[a]?) : vx_Zq C n d A U H1 := ⟨va_Zq.kept h.1 hq, vx_L.kept h.2 hq⟩
theorem vx_Zq.narrow {C n d : String} {A B : Nat → Prop} {U : State} {H : Heap} (h : vx_Zq C n d A U H) (hAB : ∀ q, B q → A q) : vx_Zq C n d B U H := ⟨va_Zq.narrow h.1 hAB, vx_L.narrow h.2 hAB⟩
theorem vx_Zqof {args : Array Value} {s : State} {C n d : String} {A : Nat → Prop} (hl : (Cond.laysStatic C n d).before args s = true) (hini : (Cond.initialized C).before args s = true) (h : (Cond.isRef (.static C n d)).before args s = true) (hA : ∀ a : Nat, a < s.heap.size → ¬ A a) : vx_Zq C n d A s s.heap := by
  refine ⟨va_Zqof hl hini h hA, ?_⟩
  obtain ⟨c, k, i, f, a, cell, h1, h2, h3, h4, h5, h6, h7, h8, h9⟩ := Cond.laysStatic_spec hl
  exact ⟨c, k, i, f, a, cell, h1, h2, h3, h4, h5, h6, h7, h8, h9, hA a (Array.getElem?_eq_some_iff.mp h5).1⟩
theorem vx_isRef {C n d : String} {v : Value} {A : Nat → Prop} {s : State} {args : Array Value} (h : va_Z C n d v A s s.heap) (hv : v.isRef = true) : (Cond.isRef (.static C n d)).before args s = true := by
  obtain ⟨cf, kf, fi, f, a, cell, h1, h2, h3, h4, h5, h6, h7, -⟩ := h
  have he : (Term.static C n d).eval args s none [] s = some v := by
    simp [Term.eval, State.fieldNamed?, h1, h2, h4, h5, h6, h7]
  simp only [Cond.before, Cond.holds, Cond.value, he]
  cases v <;> simp_all [Value.isRef]
theorem vx_isRefq {C n d : String} {A : Nat → Prop} {s : State} {args : Array Value} (h : va_Zq C n d A s s.heap) : (Cond.isRef (.static C n d)).before args s = true := by
  rcases h with h | ⟨t, h⟩
  · exact vx_isRef h rfl
  · exact vx_isRef h rfl
/-- the same frame, seen from here: as if the method were called anew in this heap -/
theorem vx_rebase {T : State} (X : Stand p l e R s m args below meth c T locs cells slots) {R' : Room} (hf : R'.frames ≤ R.frames) (hl : R'.locals ≤ R.locals) (hc : cells + R'.cells ≤ R.cells) (hs : slots + R'.slots ≤ R.slots) :
    Stand p l e R' ((T.setVm s.vm).setFrames (.invoking m args :: below)) m args below meth c T [] 0 0 := by
  have htop : (T.setVm s.vm).topJava?.isSome := X.here.top
  have hF : ((T.setVm s.vm).setFrames (.invoking m args :: below)).frames = .invoking m args :: below := State.frames_setFrames _ (State.cur_lt_of_top htop)
  obtain ⟨g₀, hg0⟩ := Option.isSome_iff_exists.mp htop
  obtain ⟨r, hr⟩ := State.topJava?_eq_some.mp hg0
  have hl9 : e.platform.stackLimits (T.setVm s.vm).me = e.platform.stackLimits s.me := X.limits
  have hb9 : (T.setVm s.vm).me.stackBytes = s.me.stackBytes := X.bytes
  refine ⟨X.admits, X.cas, X.clock, hF, ?_, X.hears, X.method, X.code, X.here, X.tail, X.warmed, ?_, ?_, ?_⟩
  · have h := X.room
    have hU : ((T.setVm s.vm).setFrames (.invoking m args :: below)).localsInUse = s.localsInUse := by
      rw [State.localsInUse_invoking hF (meth := meth) (c := c) X.method X.code, State.localsInUse_invoking X.frames X.method X.code]
    simp only [State.hasRoom, Bool.and_eq_true, decide_eq_true_eq] at h ⊢
    obtain ⟨⟨⟨⟨h1, h2, h3, h4, h5, h6⟩, h7⟩, h8⟩, h9⟩ := h
    rw [X.frames, List.length_cons] at h2 h3
    have q1 := X.heapSize
    have q2 := X.used
    simp only [hF, hU, List.length_cons, State.stackLimits_setFrames, State.stackBytes_setFrames, hl9, hb9]
    refine ⟨⟨⟨⟨by omega, by omega, by omega, by omega, by omega, h6⟩, ?_⟩, ?_⟩, X.book⟩
    · show T.heap.size + R'.cells ≤ e.platform.maxCells
      omega
    · show T.slotsUsed + R'.slots ≤ e.platform.maxSlots
      omega
  · rw [State.stackLimits_setFrames]; rfl
  · rw [State.stackBytes_setFrames]; rfl
  · refine ⟨?_, Nat.le_refl _, Nat.le_refl _, ?_, ?_, fun a c9 h9 => ⟨c9, h9, rfl, rfl, fun _ _ => rfl⟩⟩
    · obtain ⟨t, ht, -⟩ := State.frames_cons hr
      show T.setVm s.vm = { ((T.setVm s.vm).setFrames (.invoking m args :: below)).setFrames (T.setVm s.vm).frames with heap := T.heap, slotsUsed := T.slotsUsed }
      rw [State.setFrames_setFrames, State.setFrames_self ht]
      rfl
    · show T.slotsUsed = T.slotsUsed + ((T.heap.toList.drop T.heap.size).map (·.slots.size)).sum
      rw [List.drop_eq_nil_of_le (Nat.le_of_eq Array.length_toList)]
      rfl
    · show ((T.heap.toList.drop T.heap.size).map (·.slots.size)).sum ≤ 0
      rw [List.drop_eq_nil_of_le (Nat.le_of_eq Array.length_toList)]
      exact Nat.le_refl _
/-- 'throw new E()': new; dup; invokespecial; athrow -/
theorem vx_throw0 {cc : ByteArray} {pc : Nat} (hexec : p.tables.exec = Jvm.exec) (hb : c.code = cc) (hl : l.stackTraces = false) {own cls : String} {names : List String} {ik ic mc ms : Nat} {A : Nat → Prop}
    (hown : s.vm.findClass own = some m.cls) (hcls : Bundle.fit cls = true) (hnames : ∀ n ∈ names, Bundle.fit n = true)
    (hk : (Cond.classLink own ik cls).before args s = true) (hini : (Cond.initialized cls).before args s = true) (hat : ∀ w ∈ vx_at0 own ic cls names, w.before args s = true)
    (hgood : ∀ w ∈ Cond.classLink own ik cls :: Cond.initialized cls :: vx_at0 own ic cls names, vx_ot w = true)
    (hU : vx_Zq Bundle.tN "UNASSIGNED_STACK" Bundle.steD A s s.heap) (hN : vx_Zq Bundle.tN "SUPPRESSED_SENTINEL" Bundle.listD A s s.heap) (hS : va_S A s.heap H locs) (hsize : ls.size = c.maxLocals)
    (d0 : decode cc pc = .ok (.new ik, 3)) (d3 : decode cc (pc + 3) = .ok (.dup, 1)) (d4 : decode cc (pc + 4) = .ok (.invokespecial ic, 3)) (d7 : decode cc (pc + 7) = .ok (.athrow, 1))
    (hout : ∀ x ∈ c.exceptionTable.toList, covers x (pc + 7) = false)
    (hRframes : names.length + 3 < R.frames) (hRlocals : (rest.map fun v => v.category).sum + (13 * (names.length + 1) + 42) ≤ R.locals) (hRcells : cells + 1 ≤ R.cells) (hRslots : slots + 6 ≤ R.slots) (hlocks : meth.locks = false)
    (hx : ∀ t : State, s.vm.Alike t.vm → H.size ≤ t.heap.size → (∀ q : Nat, q < H.size → t.heap[q]? = H[q]?) → XC cls s t)
    (hf : ∀ z ∈ locs, free z.base) (hc : cells + 1 ≤ mc) (hs : slots + 6 ≤ ms) :
    W p l e R s m args below meth c H locs cells slots (vx_MQ below Qc XC args s mc ms free) (F0 m pc ls rest) := by
  intro T hT X
  have htr : e.platform.stackTraces = false := (show e.platform.stackTraces = l.stackTraces by rw [X.admits.platform]).trans hl
  have Y := vx_rebase X (R' := { frames := R.frames, locals := R.locals, cells := 1, slots := 6 }) (Nat.le_refl _) (Nat.le_refl _) hRcells hRslots
  obtain ⟨s', hA⟩ : ∃ z, z = (T.setVm s.vm).setFrames (.invoking m args :: below) := ⟨_, rfl⟩
  rw [← hA] at Y
  have hvm : s'.vm = s.vm := by rw [hA]; rfl
  have hhp : s'.heap = H := by rw [hA]; exact hT
  have hW0 : s.WarmedH s'.vm := by rw [hvm]; exact State.WarmedH.refl s
  have hat' : ∀ w ∈ vx_at0 own ic cls names, w.before args s' = true := fun w hw => vx_ot_at hW0 hvm.symm (hgood w (List.mem_cons_of_mem _ (List.mem_cons_of_mem _ hw))) (hat w hw)
  have hk' : (Cond.classLink own ik cls).before args s' = true := vx_ot_at hW0 hvm.symm (hgood _ List.mem_cons_self) hk
  have hini' : (Cond.initialized cls).before args s' = true := vx_ot_at hW0 hvm.symm (hgood _ (List.mem_cons_of_mem _ List.mem_cons_self)) hini
  have hU' : vx_Zq Bundle.tN "UNASSIGNED_STACK" Bundle.steD A s' s'.heap := by rw [hhp]; exact vx_Zq.moved hW0.alike (hU.kept hS.2.1)
  have hN' : vx_Zq Bundle.tN "SUPPRESSED_SENTINEL" Bundle.listD A s' s'.heap := by rw [hhp]; exact vx_Zq.moved hW0.alike (hN.kept hS.2.1)
  have h : ∀ w ∈ Bundle.ownAtoms0 own ic cls names, w.before args s' = true := vx_own hat' (vx_isRefq hU'.1) (vx_isRefq hN'.1) hU'.2.word hN'.2.word
  have hown' : s'.vm.findClass own = some m.cls := by rw [hvm]; exact hown
  have hins : (Cond.instantiable cls 6).before args s' = true := h _ (by simp [Bundle.ownAtoms0])
  obtain ⟨vm₁, cX, kX, hfX, hkX, -, -, X₁, st1⟩ := Y.newCold hexec (own := own) (C := cls) (index := ik) (n := 6) hown' hk' hins hini'
    (g := F0 m pc ls rest) rfl (by rw [hb]; exact d0) (Nat.le_refl _) (Nat.le_refl _)
  generalize hT1 : (T.setVm vm₁).pushCell { cls := cX, slots := kX.instanceTypes.map defaultValue, vm := .none } = T1 at X₁ st1
  have hcat : (Value.ref T.heap.size).category = 1 := rfl
  have hcellA : T1.heap[T.heap.size]? = some (freshCell cX kX) := by rw [← hT1]; exact State.heap_pushCell_size _ _
  have d3' : decode c.code (pc + 3) = .ok (.dup, 1) := by rw [hb]; exact d3
  obtain ⟨U, hsteps, hrun, hend, hW, hsame, ce, hce, hO⟩ := X₁.ctorThrow0 hexec htr (own := own) (cls := cls) (names := names) (ic := ic) hown' hcls hnames h (fun x hx => nomatch hx) hfX hkX hcellA (by rw [hhp, hT]; exact Nat.le_refl _)
    (g := { method := m, pc := pc + 4, locals := ls, stack := .ref T.heap.size :: .ref T.heap.size :: rest, locked := none }) rfl hsize rfl rfl (rest := rest) rfl
    (by rw [hb]; exact d4) (by rw [hb]; exact d7) hout hRframes (by simp only [List.map_cons, List.sum_cons, hcat]; omega) hlocks
  obtain ⟨f1, f2⟩ := vx_frame hsame
  rw [hhp] at f1 f2
  have hWs : s.WarmedH U.vm := State.WarmedH.trans hW0 hW
  have hcl : s.vm.findClass cls = some ce.cls := by
    have h9 := hO.cls
    rw [hvm] at h9
    exact h9
  have hall : s.sameButNew ({ U with vm := s.vm } : State) locs mc ms := by
    subst hA
    obtain ⟨e1, e2⟩ := hsame
    rw [State.setFrames_setFrames] at e1
    have h2 : (T.setVm s.vm).sameButNew ({ U with vm := s.vm } : State) [] (0 + 1) (0 + 6) := ⟨e1, e2⟩
    have h3 := X.same.trans h2
    rw [List.append_nil] at h3
    exact h3.mono hc hs
  refine ⟨U, ?_, .threw T.heap.size, hrun, hend, Or.inr ⟨T.heap.size, rfl, cls, ce, locs, hx U hWs.alike f1 (fun q hq => f2 q hq (fun z hz => nomatch hz)), hce, hO.vm, hcl, hWs, hall, hf⟩⟩
  refine st1 _ ?_
  show Steps p.tables e below (T1.setTop { method := m, pc := pc + 3, locals := ls, stack := .ref T.heap.size :: rest, locked := none }) _
  jvm_step X₁.here [X₁.here.top, hexec, d3', Value.category]
  exact hsteps
/-- 'throw new E("text")': new; dup; ldc; invokespecial; athrow -/
theorem vx_throwS {cc : ByteArray} {pc : Nat} (hexec : p.tables.exec = Jvm.exec) (hb : c.code = cc) (hl : l.stackTraces = false) {own cls text : String} {names : List String} {ik is ic mc ms sa : Nat} {A : Nat → Prop}
    (hown : s.vm.findClass own = some m.cls) (hcls : Bundle.fit cls = true) (hnames : ∀ n ∈ names, Bundle.fit n = true)
    (hk : (Cond.classLink own ik cls).before args s = true) (hini : (Cond.initialized cls).before args s = true) (hstr : vk_R own is text sa s) (hat : ∀ w ∈ vx_atS own ic cls names, w.before args s = true)
    (hgood : ∀ w ∈ Cond.classLink own ik cls :: Cond.initialized cls :: vx_atS own ic cls names, vx_ot w = true)
    (hU : vx_Zq Bundle.tN "UNASSIGNED_STACK" Bundle.steD A s s.heap) (hN : vx_Zq Bundle.tN "SUPPRESSED_SENTINEL" Bundle.listD A s s.heap) (hS : va_S A s.heap H locs) (hsize : ls.size = c.maxLocals)
    (d0 : decode cc pc = .ok (.new ik, 3)) (d3 : decode cc (pc + 3) = .ok (.dup, 1)) (d4 : decode cc (pc + 4) = .ok (.ldc is, 2)) (d6 : decode cc (pc + 6) = .ok (.invokespecial ic, 3)) (d9 : decode cc (pc + 9) = .ok (.athrow, 1))
    (hout : ∀ x ∈ c.exceptionTable.toList, covers x (pc + 9) = false)
    (hRframes : names.length + 3 < R.frames) (hRlocals : (rest.map fun v => v.category).sum + (13 * (names.length + 1) + 43) ≤ R.locals) (hRcells : cells + 1 ≤ R.cells) (hRslots : slots + 6 ≤ R.slots) (hlocks : meth.locks = false)
    (hx : ∀ t : State, s.vm.Alike t.vm → H.size ≤ t.heap.size → (∀ q : Nat, q < H.size → t.heap[q]? = H[q]?) → XC cls s t)
    (hf : ∀ z ∈ locs, free z.base) (hc : cells + 1 ≤ mc) (hs : slots + 6 ≤ ms) :
    W p l e R s m args below meth c H locs cells slots (vx_MQ below Qc XC args s mc ms free) (F0 m pc ls rest) := by
  intro T hT X
  have htr : e.platform.stackTraces = false := (show e.platform.stackTraces = l.stackTraces by rw [X.admits.platform]).trans hl
  have Y := vx_rebase X (R' := { frames := R.frames, locals := R.locals, cells := 1, slots := 6 }) (Nat.le_refl _) (Nat.le_refl _) hRcells hRslots
  obtain ⟨s', hA⟩ : ∃ z, z = (T.setVm s.vm).setFrames (.invoking m args :: below) := ⟨_, rfl⟩
  rw [← hA] at Y
  have hvm : s'.vm = s.vm := by rw [hA]; rfl
  have hhp : s'.heap = H := by rw [hA]; exact hT
  have hW0 : s.WarmedH s'.vm := by rw [hvm]; exact State.WarmedH.refl s
  have hat' : ∀ w ∈ vx_atS own ic cls names, w.before args s' = true := fun w hw => vx_ot_at hW0 hvm.symm (hgood w (List.mem_cons_of_mem _ (List.mem_cons_of_mem _ hw))) (hat w hw)
  have hk' : (Cond.classLink own ik cls).before args s' = true := vx_ot_at hW0 hvm.symm (hgood _ List.mem_cons_self) hk
  have hini' : (Cond.initialized cls).before args s' = true := vx_ot_at hW0 hvm.symm (hgood _ (List.mem_cons_of_mem _ List.mem_cons_self)) hini
  have hU' : vx_Zq Bundle.tN "UNASSIGNED_STACK" Bundle.steD A s' s'.heap := by rw [hhp]; exact vx_Zq.moved hW0.alike (hU.kept hS.2.1)
  have hN' : vx_Zq Bundle.tN "SUPPRESSED_SENTINEL" Bundle.listD A s' s'.heap := by rw [hhp]; exact vx_Zq.moved hW0.alike (hN.kept hS.2.1)
  have h : ∀ w ∈ Bundle.ownAtoms own ic cls names, w.before args s' = true := vx_own hat' (vx_isRefq hU'.1) (vx_isRefq hN'.1) hU'.2.word hN'.2.word
  have hown' : s'.vm.findClass own = some m.cls := by rw [hvm]; exact hown
  have hins : (Cond.instantiable cls 6).before args s' = true := h _ (by simp [Bundle.ownAtoms])
  obtain ⟨vm₁, cX, kX, hfX, hkX, -, -, X₁, st1⟩ := Y.newCold hexec (own := own) (C := cls) (index := ik) (n := 6) hown' hk' hins hini'
    (g := F0 m pc ls rest) rfl (by rw [hb]; exact d0) (Nat.le_refl _) (Nat.le_refl _)
  generalize hT1 : (T.setVm vm₁).pushCell { cls := cX, slots := kX.instanceTypes.map defaultValue, vm := .none } = T1 at X₁ st1
  have hcat : (Value.ref T.heap.size).category = 1 := rfl
  have hcellA : T1.heap[T.heap.size]? = some (freshCell cX kX) := by rw [← hT1]; exact State.heap_pushCell_size _ _
  have d3' : decode c.code (pc + 3) = .ok (.dup, 1) := by rw [hb]; exact d3
  have d4' : decode c.code (pc + 4) = .ok (.ldc is, 2) := by rw [hb]; exact d4
  have hstr' : vk_R own is text sa s' := vk_R.warm hW0 hstr
  obtain ⟨U, hsteps, hrun, hend, hW, hsame, ce, hce, hO⟩ := X₁.ctorThrowS hexec htr (own := own) (cls := cls) (names := names) (ic := ic) hown' hcls hnames h (fun x hx => nomatch hx) hfX hkX hcellA (by rw [hhp, hT]; exact Nat.le_refl _) (msg := .ref sa) rfl
    (g := { method := m, pc := pc + 6, locals := ls, stack := .ref sa :: .ref T.heap.size :: .ref T.heap.size :: rest, locked := none }) rfl hsize rfl rfl (rest := rest) rfl
    (by rw [hb]; exact d6) (by rw [hb]; exact d9) hout hRframes (by simp only [List.map_cons, List.sum_cons, hcat]; omega) hlocks
  obtain ⟨f1, f2⟩ := vx_frame hsame
  rw [hhp] at f1 f2
  have hWs : s.WarmedH U.vm := State.WarmedH.trans hW0 hW
  have hcl : s.vm.findClass cls = some ce.cls := by
    have h9 := hO.cls
    rw [hvm] at h9
    exact h9
  have hall : s.sameButNew ({ U with vm := s.vm } : State) locs mc ms := by
    subst hA
    obtain ⟨e1, e2⟩ := hsame
    rw [State.setFrames_setFrames] at e1
    have h2 : (T.setVm s.vm).sameButNew ({ U with vm := s.vm } : State) [] (0 + 1) (0 + 6) := ⟨e1, e2⟩
    have h3 := X.same.trans h2
    rw [List.append_nil] at h3
    exact h3.mono hc hs
  refine ⟨U, ?_, .threw T.heap.size, hrun, hend, Or.inr ⟨T.heap.size, rfl, cls, ce, locs, hx U hWs.alike f1 (fun q hq => f2 q hq (fun z hz => nomatch hz)), hce, hO.vm, hcl, hWs, hall, hf⟩⟩
  refine st1 _ ?_
  show Steps p.tables e below (T1.setTop { method := m, pc := pc + 3, locals := ls, stack := .ref T.heap.size :: rest, locked := none }) _
  jvm_step X₁.here [X₁.here.top, hexec, d3', Value.category]
  exact X₁.ldcString hexec (own := own) (text := text) (index := is) (a := sa) hown' hstr'.1 hstr'.2
    (g := { method := m, pc := pc + 4, locals := ls, stack := .ref T.heap.size :: .ref T.heap.size :: rest, locked := none }) rfl d4' _ hsteps
/-- 'throw new E("text")', the text by a wide index -/
theorem vx_throwSW {cc : ByteArray} {pc : Nat} (hexec : p.tables.exec = Jvm.exec) (hb : c.code = cc) (hl : l.stackTraces = false) {own cls text : String} {names : List String} {ik is ic mc ms sa : Nat} {A : Nat → Prop}
    (hown : s.vm.findClass own = some m.cls) (hcls : Bundle.fit cls = true) (hnames : ∀ n ∈ names, Bundle.fit n = true)
    (hk : (Cond.classLink own ik cls).before args s = true) (hini : (Cond.initialized cls).before args s = true) (hstr : vk_R own is text sa s) (hat : ∀ w ∈ vx_atS own ic cls names, w.before args s = true)
    (hgood : ∀ w ∈ Cond.classLink own ik cls :: Cond.initialized cls :: vx_atS own ic cls names, vx_ot w = true)
    (hU : vx_Zq Bundle.tN "UNASSIGNED_STACK" Bundle.steD A s s.heap) (hN : vx_Zq Bundle.tN "SUPPRESSED_SENTINEL" Bundle.listD A s s.heap) (hS : va_S A s.heap H locs) (hsize : ls.size = c.maxLocals)
    (d0 : decode cc pc = .ok (.new ik, 3)) (d3 : decode cc (pc + 3) = .ok (.dup, 1)) (d4 : decode cc (pc + 4) = .ok (.ldc_w is, 3)) (d7 : decode cc (pc + 7) = .ok (.invokespecial ic, 3)) (d10 : decode cc (pc + 10) = .ok (.athrow, 1))
    (hout : ∀ x ∈ c.exceptionTable.toList, covers x (pc + 10) = false)
    (hRframes : names.length + 3 < R.frames) (hRlocals : (rest.map fun v => v.category).sum + (13 * (names.length + 1) + 43) ≤ R.locals) (hRcells : cells + 1 ≤ R.cells) (hRslots : slots + 6 ≤ R.slots) (hlocks : meth.locks = false)
    (hx : ∀ t : State, s.vm.Alike t.vm → H.size ≤ t.heap.size → (∀ q : Nat, q < H.size → t.heap[q]? = H[q]?) → XC cls s t)
    (hf : ∀ z ∈ locs, free z.base) (hc : cells + 1 ≤ mc) (hs : slots + 6 ≤ ms) :
    W p l e R s m args below meth c H locs cells slots (vx_MQ below Qc XC args s mc ms free) (F0 m pc ls rest) := by
  intro T hT X
  have htr : e.platform.stackTraces = false := (show e.platform.stackTraces = l.stackTraces by rw [X.admits.platform]).trans hl
  have Y := vx_rebase X (R' := { frames := R.frames, locals := R.locals, cells := 1, slots := 6 }) (Nat.le_refl _) (Nat.le_refl _) hRcells hRslots
  obtain ⟨s', hA⟩ : ∃ z, z = (T.setVm s.vm).setFrames (.invoking m args :: below) := ⟨_, rfl⟩
  rw [← hA] at Y
  have hvm : s'.vm = s.vm := by rw [hA]; rfl
  have hhp : s'.heap = H := by rw [hA]; exact hT
  have hW0 : s.WarmedH s'.vm := by rw [hvm]; exact State.WarmedH.refl s
  have hat' : ∀ w ∈ vx_atS own ic cls names, w.before args s' = true := fun w hw => vx_ot_at hW0 hvm.symm (hgood w (List.mem_cons_of_mem _ (List.mem_cons_of_mem _ hw))) (hat w hw)
  have hk' : (Cond.classLink own ik cls).before args s' = true := vx_ot_at hW0 hvm.symm (hgood _ List.mem_cons_self) hk
  have hini' : (Cond.initialized cls).before args s' = true := vx_ot_at hW0 hvm.symm (hgood _ (List.mem_cons_of_mem _ List.mem_cons_self)) hini
  have hU' : vx_Zq Bundle.tN "UNASSIGNED_STACK" Bundle.steD A s' s'.heap := by rw [hhp]; exact vx_Zq.moved hW0.alike (hU.kept hS.2.1)
  have hN' : vx_Zq Bundle.tN "SUPPRESSED_SENTINEL" Bundle.listD A s' s'.heap := by rw [hhp]; exact vx_Zq.moved hW0.alike (hN.kept hS.2.1)
  have h : ∀ w ∈ Bundle.ownAtoms own ic cls names, w.before args s' = true := vx_own hat' (vx_isRefq hU'.1) (vx_isRefq hN'.1) hU'.2.word hN'.2.word
  have hown' : s'.vm.findClass own = some m.cls := by rw [hvm]; exact hown
  have hins : (Cond.instantiable cls 6).before args s' = true := h _ (by simp [Bundle.ownAtoms])
  obtain ⟨vm₁, cX, kX, hfX, hkX, -, -, X₁, st1⟩ := Y.newCold hexec (own := own) (C := cls) (index := ik) (n := 6) hown' hk' hins hini'
    (g := F0 m pc ls rest) rfl (by rw [hb]; exact d0) (Nat.le_refl _) (Nat.le_refl _)
  generalize hT1 : (T.setVm vm₁).pushCell { cls := cX, slots := kX.instanceTypes.map defaultValue, vm := .none } = T1 at X₁ st1
  have hcat : (Value.ref T.heap.size).category = 1 := rfl
  have hcellA : T1.heap[T.heap.size]? = some (freshCell cX kX) := by rw [← hT1]; exact State.heap_pushCell_size _ _
  have d3' : decode c.code (pc + 3) = .ok (.dup, 1) := by rw [hb]; exact d3
  have d4' : decode c.code (pc + 4) = .ok (.ldc_w is, 3) := by rw [hb]; exact d4
  have hstr' : vk_R own is text sa s' := vk_R.warm hW0 hstr
  obtain ⟨U, hsteps, hrun, hend, hW, hsame, ce, hce, hO⟩ := X₁.ctorThrowS hexec htr (own := own) (cls := cls) (names := names) (ic := ic) hown' hcls hnames h (fun x hx => nomatch hx) hfX hkX hcellA (by rw [hhp, hT]; exact Nat.le_refl _) (msg := .ref sa) rfl
    (g := { method := m, pc := pc + 7, locals := ls, stack := .ref sa :: .ref T.heap.size :: .ref T.heap.size :: rest, locked := none }) rfl hsize rfl rfl (rest := rest) rfl
    (by rw [hb]; exact d7) (by rw [hb]; exact d10) hout hRframes (by simp only [List.map_cons, List.sum_cons, hcat]; omega) hlocks
  obtain ⟨f1, f2⟩ := vx_frame hsame
  rw [hhp] at f1 f2
  have hWs : s.WarmedH U.vm := State.WarmedH.trans hW0 hW
  have hcl : s.vm.findClass cls = some ce.cls := by
    have h9 := hO.cls
    rw [hvm] at h9
    exact h9
  have hall : s.sameButNew ({ U with vm := s.vm } : State) locs mc ms := by
    subst hA
    obtain ⟨e1, e2⟩ := hsame
    rw [State.setFrames_setFrames] at e1
    have h2 : (T.setVm s.vm).sameButNew ({ U with vm := s.vm } : State) [] (0 + 1) (0 + 6) := ⟨e1, e2⟩
    have h3 := X.same.trans h2
    rw [List.append_nil] at h3
    exact h3.mono hc hs
  refine ⟨U, ?_, .threw T.heap.size, hrun, hend, Or.inr ⟨T.heap.size, rfl, cls, ce, locs, hx U hWs.alike f1 (fun q hq => f2 q hq (fun z hz => nomatch hz)), hce, hO.vm, hcl, hWs, hall, hf⟩⟩
  refine st1 _ ?_
  show Steps p.tables e below (T1.setTop { method := m, pc := pc + 3, locals := ls, stack := .ref T.heap.size :: rest, locked := none }) _
  jvm_step X₁.here [X₁.here.top, hexec, d3', Value.category]
  exact X₁.ldcStringW hexec (own := own) (text := text) (index := is) (a := sa) hown' hstr'.1 hstr'.2
    (g := { method := m, pc := pc + 4, locals := ls, stack := .ref T.heap.size :: .ref T.heap.size :: rest, locked := none }) rfl d4' _ hsteps
end Ends
section Bodies
variable {l : Launch}
theorem vx_ofW {y : MethodName} {ws ws' : List Cond} {rm : Room} {Pc : Array Value → State → Prop} {Qc : Array Value → State → Outcome → State → Prop} {XC : String → State → State → Prop} {mc ms : Nat} {free : Addr → Prop} {cc : ByteArray} {maxL : Nat} {ret : Option FieldType}
    (hy : plainName y.cls = true) (hw : ws = Cond.code y cc maxL ret :: ws')
    (body : ∀ p e s m args below meth c s₁, BodyLoose p l y (headSpec ws rm) cc maxL ret e s m args below meth c s₁ → c.maxLocals = maxL → (∀ x ∈ c.exceptionTable.toList, False) → Pc args s →
      W p l e (headSpec ws rm).room s m args below meth c s.heap [] 0 0 (vx_MQ below Qc XC args s mc ms free) (entryFrame m args maxL)) : vx_Met l y ws rm Pc Qc XC mc ms free := by
  refine MetFree.of_bodyS (code := cc) (maxLocals := maxL) (ret := ret) hy ?_ ?_
  · intro args s m h hn
    obtain ⟨meth, c, h1, h2, h3, h4, h5, h6, -, -⟩ := Cond.code_spec hn (atoms_spec (ws := ws) h _ (by rw [hw]; exact List.mem_cons_self))
    exact ⟨meth, c, h1, h2, h3, h4, h5, h6⟩
  · intro p e s m args below meth c s₁ B hml hP _
    have hh0 : s₁.heap = s.heap := by rw [B.state]; rfl
    have ht : ∀ x ∈ c.exceptionTable.toList, False := by
      obtain ⟨meth9, c9, h1, h2, -, -, -, -, h7, -⟩ := Cond.code_spec B.named (atoms_spec (ws := ws) B.pre _ (by rw [hw]; exact List.mem_cons_self))
      cases Option.some.inj (h1.symm.trans B.method)
      cases Option.some.inj (h2.symm.trans (Stand.of_body B).code)
      intro x hx
      rw [Array.isEmpty_iff.mp h7] at hx
      cases hx
    obtain ⟨t, a1, o, b1, b2, b3⟩ := body p e s m args below meth c s₁ B hml ht hP s₁ hh0 (Stand.of_body B)
    exact ⟨t, o, a1, b1, b2, b3⟩
/-- the table of a body with handlers -/
theorem vx_table {p : Program} {x y : MethodName} {S : Spec} {cc bytes : ByteArray} {maxL maxL' : Nat} {ret ret' : Option FieldType} {e : Env} {s s₁ : State} {m : MethodId} {args : Array Value} {below : List Frame} {meth : Method} {c : Code} {hh : List (Nat × Nat × Nat × Nat)}
    (B : BodyLoose p l y S cc maxL ret e s m args below meth c s₁) (h : (Cond.codeWith y bytes maxL' ret' hh).before args s = true) : c.exceptionTable.toList = tableOf hh := by
  obtain ⟨m9, meth9, c9, hn9, h1, h2, -, -, h6, -⟩ := Cond.codeWith_spec h
  cases Option.some.inj (hn9.symm.trans B.named)
  cases Option.some.inj (h1.symm.trans B.method)
  cases Option.some.inj (h2.symm.trans (Stand.of_body B).code)
  rw [← h6, table_eq]
end Bodies
end VXA
/-! ===== END ===== -/
/-! ===== BEGIN a static call of a method with an exception table ===== -/
section VXS
variable {p : Program} {l : Launch} {e : Env} {R : Room} {s : State} {m : MethodId} {args : Array Value} {below : List Frame} {meth : Method} {c : Code} {T : State} {H : Heap} {locs : List Loc} {cells slots : Nat}
abbrev vx_CSW (R : Room) (s : State) (args : Array Value) (own : String) (index : Nat) (y : MethodName) (bytes : ByteArray) (maxL : Nat) (ret : Option FieldType) (hh : List (Nat × Nat × Nat × Nat)) (ws : List Cond) (rm : Room) (mc ms n : Nat) : Prop :=
  (rm.cells = mc ∧ rm.slots = ms ∧ rm.frames + 1 ≤ R.frames ∧ 8 + (maxL + 11) + rm.locals ≤ R.locals ∧ (∀ w ∈ ws, ∀ (a' : Array Value) (U : State), s.WarmedH U.vm → w.before a' U = true) ∧ Cond.codeWith y bytes maxL ret hh ∈ ws) ∧
  (Cond.codeWith y bytes maxL ret hh).before args s = true ∧ (Cond.initialized y.cls).before args s = true ∧ (y.cls ≠ "java/lang/invoke/MethodHandle" ∧ y.cls ≠ "java/lang/invoke/VarHandle") ∧
  (∀ sig, parseMethodDescriptor y.desc = some sig → n = sig.parameters.length) ∧ (Cond.methodLink own index y).before args s = true ∧ (Cond.static y).before args s = true
theorem vx_cwSW {own : String} {index maxL mc ms : Nat} {y : MethodName} {bytes : ByteArray} {ret : Option FieldType} {hh : List (Nat × Nat × Nat × Nat)} {Ts ws ws' : List Cond} {rm : Room} (n : Nat) (ht : ∀ w ∈ Ts, w.before args s = true) (hT : GoodIn Ts (va_wsS own index y ws)) (hw : ws = Cond.codeWith y bytes maxL ret hh :: ws') (hrc : rm.cells = mc) (hrs : rm.slots = ms)
    (hd : y.cls ≠ "java/lang/invoke/MethodHandle" ∧ y.cls ≠ "java/lang/invoke/VarHandle" ∧ (parseMethodDescriptor y.desc).map (fun d => d.parameters.length) = some n) (hR : rm.frames + 1 ≤ R.frames ∧ 8 + (maxL + 11) + rm.locals ≤ R.locals) :
    vx_CSW R s args own index y bytes maxL ret hh ws rm mc ms n := by
  have ok : ∀ w ∈ va_wsS own index y ws, w.before args s = true := fun w h => ht w (hT w h).1
  have hG : GoodIn Ts ws := fun w h => hT w (by unfold va_wsS; exact List.mem_append_right _ h)
  have hc : Cond.codeWith y bytes maxL ret hh ∈ ws := by rw [hw]; exact List.mem_cons_self
  refine ⟨⟨hrc, hrs, hR.1, hR.2, pay_in ht hG, hc⟩, ht _ (hG _ hc).1, ok _ (by simp [va_wsS]), ⟨hd.1, hd.2.1⟩, fun sig h => ?_, ok _ (by simp [va_wsS]), ok _ (by simp [va_wsS])⟩
  have h2 := hd.2.2
  rw [h] at h2
  exact (Option.some.inj h2).symm
theorem vx_callSW (X : Stand p l e R s m args below meth c T locs cells slots) (hexec : p.tables.exec = Jvm.exec) {own : String} {index : Nat} {y : MethodName} {bytes : ByteArray} {maxL : Nat} {ret : Option FieldType} {hh : List (Nat × Nat × Nat × Nat)}
    (hown : s.vm.findClass own = some m.cls) (hlink : (Cond.methodLink own index y).before args s = true) (hstat : (Cond.static y).before args s = true) (hinit : (Cond.initialized y.cls).before args s = true)
    (hcode : (Cond.codeWith y bytes maxL ret hh).before args s = true) (hy : y.cls ≠ "java/lang/invoke/MethodHandle" ∧ y.cls ≠ "java/lang/invoke/VarHandle")
    {W9 : Nat} {Pre : Pt → Array Value → Prop} {Post : Pt → Array Value → Option Value → Pt → Prop} (hK : Back l R p e below s args y 3 W9 Pre Post)
    {g : JFrame} (hg : g.method = m) (hsize : g.locals.size = c.maxLocals) {argsL rest : List Value} (hlen : ∀ sig, parseMethodDescriptor y.desc = some sig → argsL.length = sig.parameters.length)
    (hstack : g.stack = argsL.reverse ++ rest) (hW : 2 * g.monitorRoom + (rest.map fun v => v.category).sum ≤ W9) (hdg : decode c.code g.pc = .ok (.invokestatic index, 3))
    (hpre : ∀ vm₁, s.WarmedH vm₁ → Pre ⟨T.setVm vm₁, locs, cells, slots⟩ argsL.toArray) :
    ∃ (v : Option Value) (vm₁ : Vm) (B : Pt), s.WarmedH vm₁ ∧ Stand p l e R s m args below meth c B.U B.locs B.cells B.slots ∧ Post ⟨T.setVm vm₁, locs, cells, slots⟩ argsL.toArray v B ∧
      ∀ target, Steps p.tables e below (B.U.setTop { g with pc := g.pc + 3, stack := v.toList ++ rest }) target → Steps p.tables e below (T.setTop g) target := by
  obtain ⟨mk, methM, cM, hnamed, hmethM, -, -, -, -, -, -, hsigM⟩ := Cond.codeWith_spec hcode
  have hstatic : methM.isStatic = true := Cond.static_spec hnamed hmethM hstat
  obtain ⟨kP, hkP, -⟩ := className_of_methodNamed hnamed
  have hinitP : kP.init = .initialized := Cond.initialized_spec (findClass_of_methodNamed hnamed) hkP hinit
  obtain ⟨vm₁, X₁, hstep₁⟩ := X.invokestatic hexec hown hlink hnamed hmethM hstatic hkP hinitP hy (g := g) hg (argsL := argsL) (rest := rest) (hlen _ hsigM) hstack hdg
  obtain ⟨v, B, X', hpost, hsteps⟩ := hK m meth c ⟨T.setVm vm₁, locs, cells, slots⟩ { g with stack := rest } (.invokestatic index) mk argsL.toArray X₁ hg hsize hdg hW (X₁.named hnamed) (hpre vm₁ X₁.warmed)
  exact ⟨v, vm₁, B, X₁.warmed, X', hpost, fun target h => hstep₁ _ fun acts => by rw [doInvoke_state]; exact hsteps.trans h⟩
theorem vx_runSW {y : MethodName} {bytes cc : ByteArray} {maxL nL mc ms n index : Nat} {ret : Option FieldType} {hh : List (Nat × Nat × Nat × Nat)} {ws : List Cond} {rm : Room} {Pc : Array Value → State → Prop} {Qc : Array Value → State → Outcome → State → Prop} {free : Addr → Prop} {Ts : List Cond} {own : String} {As rest : List Value} {g : JFrame}
    (S : CallFix p m c cc nL s args Ts own) (hM : Met l y ws rm Pc Qc mc ms free) (cw : vx_CSW R s args own index y bytes maxL ret hh ws rm mc ms n) (hp : PreS s H Pc As)
    (hg : g.method = m) (hn : As.length = n) (hsize : g.locals.size = nL) (hstack : g.stack = As.reverse ++ rest) (hW : 2 * g.monitorRoom + (rest.map fun v => v.category).sum ≤ 8) (hdg : decode cc g.pc = .ok (.invokestatic index, 3)) (hf : cells + mc ≤ R.cells ∧ slots + ms ≤ R.slots) :
    va_Run p l e R s m args below meth c H locs cells slots mc ms g rest (Qc As.toArray) (free) := by
  obtain ⟨⟨hrc, hrs, hfr, hlo, hws, hcw⟩, hcode, hini, hy, hlen, hl, hstt⟩ := cw
  have hK : Back l R p e below s args y 3 8 (PreOf R mc ms Pc) (PostOf Qc mc ms free) := va_backW (hh := hh) (bytes := bytes) (maxL := maxL) (ret := ret) hM hp.1 hrc hrs hfr hlo hws hcw (fun a' U hW => word_at hW (Or.inl (by first | rfl | simp [Cond.onTables, Cond.keeps, Cond.steady])) hini)
  obtain ⟨hx, hb, hml, ho, -⟩ := S
  intro T hT X
  obtain ⟨v, vm₁, ⟨U', l2, c2, s2⟩, hW₁, X', ⟨g', mk, t, L, e1, e2, hq, h1, hL, h2, h3⟩, st⟩ := vx_callSW X hx (hh := hh) (bytes := bytes) (maxL := maxL) (ret := ret) ho hl hstt hini hcode hy hK hg (hsize.trans hml.symm) (argsL := As) (rest := rest) (fun sig h => hn.trans (hlen sig h)) hstack hW (by rw [hb]; exact hdg)
    (fun vm₁ hW₁ => ⟨hf.1, hf.2, hp.2 (T.setVm vm₁) hT hW₁⟩)
  dsimp only [Pt.U, Pt.locs, Pt.cells, Pt.slots] at X' e1 e2 h1 h2 h3 st
  subst h1; subst h2; subst h3
  exact ⟨v, (T.setVm vm₁).calling g' mk As.toArray, t, U', L, hT, X', hL, e1, e2, hq, st⟩
/-- not caught here, past rows that name other classes: it goes on to the caller -/
theorem vx_outP {p : Program} {l : Launch} {e : Env} {R : Room} {s : State} {m : MethodId} {args : Array Value} {below : List Frame} {meth : Method} {c : Code} {H : Heap} {locs : List Loc} {cells slots : Nat} {free : Addr → Prop} {ls : Array Slot} {rest : List Value} {Qc : Array Value → State → Outcome → State → Prop} {XC : String → State → State → Prop}
    {pc : Nat} {own E : String} {ce : Cell} {q : Addr} {mc ms : Nat} (hown : s.vm.findClass own = some m.cls) (hlocks : meth.locks = false)
    (hpass : ∀ z ∈ c.exceptionTable.toList, covers z pc = false ∨ (z.catchType ≠ 0 ∧ ∃ nm : String, (Cond.classLink own z.catchType nm).before args s = true ∧ va_Nc E nm s)) (hcell : H[q]? = some ce) (hv : ce.vm = .none) (hcl : s.vm.findClass E = some ce.cls)
    (hx : ∀ t : State, t.heap = H → s.vm.Alike t.vm → XC E s t) (hf : ∀ z ∈ locs, free z.base) (hc : cells ≤ mc) (hs : slots ≤ ms) :
    vx_W p l e R s m args below meth c H locs cells slots (vx_MQ below Qc XC args s mc ms free) (F0 m pc ls rest) q := by
  intro T hT X
  have hpl : e.platform.magicAccessors = ({} : Platform).magicAccessors := by rw [X.admits.platform]
  obtain ⟨vm', hW', X', st⟩ := X.outThrough hlocks q (g := F0 m pc ls rest) rfl rfl rfl (cell := ce) (by rw [hT]; exact hcell) (by rw [hv]; rfl)
    (by obtain ⟨k9, h9, -⟩ := Vm.findClass_spec hcl; exact ⟨k9, h9⟩) (fun z hz => by
      rcases hpass z hz with h | ⟨hz0, nm, hl1, hn1⟩
      · exact Or.inl h
      · obtain ⟨c6, hc6, hcl6⟩ := Cond.classLink_spec hown hl1 e.platform hpl
        obtain ⟨a8, b8, h1, h2, h3⟩ := hn1
        cases Option.some.inj (h1.symm.trans hcl)
        cases Option.some.inj (h2.symm.trans hc6)
        exact Or.inr ⟨hz0, _, hcl6, h3⟩)
  obtain ⟨g₀, hfr⟩ := X'.frames_eq
  have hcell9 : ((T.setVm vm').setFrames (.throwing q :: below)).heap[q]? = some ce := by
    show T.heap[q]? = some ce
    rw [hT]; exact hcell
  have hend : Ended ((T.setVm vm').setFrames (.throwing q :: below)) below (.threw q) := State.frames_setFrames _ (State.cur_lt_of_frames hfr)
  refine ⟨(T.setVm vm').setFrames (.throwing q :: below), ?_, .threw q, X'.here.running, hend, Or.inr ⟨q, rfl, E, ce, locs, hx _ hT (X'.ends _).1.alike, hcell9, hv, hcl, (X'.ends _).1, (X'.ends _).2.mono hc hs, hf⟩⟩
  rw [X.pushThrowing_eq]
  exact st
/-- a thing of a world lies in the heap -/
theorem vx_lt {D : va_G} {cl : List vw_C} {ws : va_W} {H1 : Heap} (h : va_P D cl ws H1) {k : Nat} {q : Nat × va_E} (hk : ws[k]? = some q) : q.1 < H1.size := (h k q hk).lt
end VXS
/-! ===== END ===== -/
/-! ===== BEGIN methods with a table of their own: called by a name, returning or throwing ===== -/
section VXH
/-! vx_backW, vx_callVX, vx_callSX, vx_callVW, vx_runVW, vx_runVX, vx_runSX, vx_ofWH follow the same proofs as their sisters above (Free/Laws.lean, Shelf42/LK1.lean); vx_outP calls Shelf42/NT130.lean (outThrough). -/
section
variable {l : Launch} {R : Room} {p : Program} {e : Env} {below : List Frame} {s : State} {sargs : Array Value} {y : MethodName} {len W9 : Nat}
theorem vx_backW {ws : List Cond} {rm : Room} {Pc : Array Value → State → Prop} {Qc : Array Value → State → Outcome → State → Prop} {XC : String → State → State → Prop} {mc ms : Nat} {free : Addr → Prop} {bytes : ByteArray} {maxL : Nat} {ret : Option FieldType} {hh : List (Nat × Nat × Nat × Nat)}
    (hM : vx_Met l y ws rm Pc Qc XC mc ms free) (hblind : FrameBlind Pc) (hrc : rm.cells = mc) (hrs : rm.slots = ms)
    (hframes : rm.frames + 1 ≤ R.frames) (hlocals : W9 + (maxL + 11) + rm.locals ≤ R.locals)
    (hws : ∀ w ∈ ws, ∀ a' U, s.WarmedH U.vm → w.before a' U = true) (hcode : Cond.codeWith y bytes maxL ret hh ∈ ws) (hinit : ∀ a' U, s.WarmedH U.vm → (Cond.initialized y.cls).before a' U = true) :
    vx_Back l R p e below s sargs y len W9 (PreOf R mc ms Pc) (PostOf Qc mc ms free) (vx_Post XC mc ms free) := by
  intro m meth c A g ig mk a X hg hsize hdg hW hn hp
  have h1 : (headSpec ws rm).pre.before a A.U = true := atoms_intro fun w hw => hws w hw _ _ X.warmed
  have h2 : (Cond.codeWith y bytes maxL ret hh).before a A.U = true := hws _ hcode _ _ X.warmed
  have h3 : (Cond.initialized y.cls).before a A.U = true := hinit _ _ X.warmed
  have h4 : A.cells + (headSpec ws rm).room.cells ≤ R.cells := by rw [show (headSpec ws rm).room.cells = mc from hrc]; exact hp.1
  have h5 : A.slots + (headSpec ws rm).room.slots ≤ R.slots := by rw [show (headSpec ws rm).room.slots = ms from hrs]; exact hp.2.1
  have hPc : Pc a (A.U.calling g mk a) := hblind _ _ _ _ hp.2.2
  obtain ⟨U, Ls, c0, s0⟩ := A
  dsimp only [Pt.U, Pt.locs, Pt.cells, Pt.slots] at h1 h2 h3 h4 h5 X hn hPc ⊢
  obtain ⟨m9, methY, cY, hn9, hmY, hcY, -, hlY, -⟩ := Cond.codeWith_spec h2
  cases Option.some.inj (hn9.symm.trans hn)
  obtain ⟨kY, hkY, -⟩ := className_of_methodNamed hn
  have hinitY : kY.init = .initialized := Cond.initialized_spec (findClass_of_methodNamed hn) hkY h3
  have h : At U g.method c below := by rw [hg]; exact X.here
  have hlocals9 : W9 + (maxL + 11) + (headSpec ws rm).room.locals ≤ R.locals := hlocals
  have happ : (headSpec ws rm).appliesLoose y e.platform (U.calling g mk a) = true :=
    Spec.appliesLoose_calling (g := g) h hdg hn hkY hinitY
      (X.room_calling (g := g) (R' := (headSpec ws rm).room) hsize hmY hcY hframes (by rw [hlY]; omega) h4 h5) h1
  obtain ⟨mid, hmid⟩ := h.above
  have hfr : (U.setTop g).frames = (.java g :: mid) ++ below := by rw [State.frames_setTop' g h.top, hmid]; rfl
  obtain ⟨o, s₂, hsteps, -, hend, hq⟩ := Steps.callFree hM p X.admits X.cas X.clock (acts := []) hfr happ hPc trivial
  have hq' : vx_Q Qc XC mc ms free a (U.calling g mk a) o s₂ := hq
  rw [State.frames_setTop' g h.top] at hend
  obtain ⟨g₀, hg0⟩ := Option.isSome_iff_exists.mp h.top
  obtain ⟨r, hr⟩ := State.topJava?_eq_some.mp hg0
  have hr' : (({ U with heap := s₂.heap, slotsUsed := s₂.slotsUsed } : State).setVm s₂.vm).frames = .java g₀ :: r := hr
  rcases hq' with ⟨hqc, L, hfe, hL⟩ | ⟨q, rfl, E, ce, L, hx, hce, hcv, hcl, hW₂, hsm, hL⟩
  · obtain ⟨⟨v, rfl⟩, hW₂, e2, q2, q3, q4, q5, q6⟩ := id hfe
    have e3 : s₂ = ({ (U.calling g mk a).setFrames s₂.frames with heap := s₂.heap, slotsUsed := s₂.slotsUsed } : State).setVm s₂.vm := by
      have : s₂ = ({ s₂ with vm := (U.calling g mk a).vm } : State).setVm s₂.vm := rfl
      rw [e2] at this
      exact this
    obtain ⟨c₂, i₂, len₂, hc₂, hd₂, hf₂⟩ := hend
    have hW' : U.WarmedH s₂.vm := hW₂
    have hcc : c₂ = c := by
      have h1 : s₂.code? g.method = U.code? g.method := by
        rw [State.code?_eq, State.code?_eq, hW'.alike.method?]
      exact Option.some.inj (hc₂.symm.trans (h1.trans h.code))
    subst hcc
    have hlen : len₂ = len := by rw [hdg] at hd₂; cases hd₂; rfl
    subst hlen
    have hs₂ : s₂ = (({ U with heap := s₂.heap, slotsUsed := s₂.slotsUsed } : State).setVm s₂.vm).setTop { g with pc := g.pc + len₂, stack := v.toList ++ g.stack } := by
      refine e3.trans ?_
      rw [hf₂, State.calling_eq h.top, State.setFrames_setFrames, State.setTop_of_frames _ hr', hr]
      rfl
    have hsame : U.sameButNew ({ U with heap := s₂.heap, slotsUsed := s₂.slotsUsed } : State) L mc ms := by
      refine ⟨?_, q2, q3, q4, q5, q6⟩
      obtain ⟨t, ht, -⟩ := State.frames_cons hr
      show ({ U with heap := s₂.heap, slotsUsed := s₂.slotsUsed } : State) = { U.setFrames U.frames with heap := s₂.heap, slotsUsed := s₂.slotsUsed }
      rw [State.setFrames_self ht]
    subst hg
    refine Or.inl ⟨v, ⟨(({ U with heap := s₂.heap, slotsUsed := s₂.slotsUsed } : State).setVm s₂.vm), Ls ++ L, c0 + mc, s0 + ms⟩,
      ⟨X.admits, X.cas, X.clock, X.frames, X.room, X.hears, X.method, X.code, (X.here.setHeapUsed s₂.heap s₂.slotsUsed).setVm hW'.alike, X.tail, State.WarmedH.trans X.warmed hW', X.limits, X.bytes, X.same.trans (hsame.setVm s.vm)⟩,
      ⟨g, mk, s₂, L, rfl, rfl, hqc, rfl, hL, rfl, rfl⟩, ?_⟩
    show Steps p.tables e below _ ((({ U with heap := s₂.heap, slotsUsed := s₂.slotsUsed } : State).setVm s₂.vm).setTop { g with pc := g.pc + len₂, stack := v.toList ++ g.stack })
    rw [← hs₂]
    exact hsteps
  · obtain ⟨e2, q2, q3, q4, q5, q6⟩ := id hsm
    have e3 : s₂ = ({ (U.calling g mk a).setFrames s₂.frames with heap := s₂.heap, slotsUsed := s₂.slotsUsed } : State).setVm s₂.vm := by
      have : s₂ = ({ s₂ with vm := (U.calling g mk a).vm } : State).setVm s₂.vm := rfl
      rw [e2] at this
      exact this
    have hf₂ : s₂.frames = .throwing q :: .java g :: U.frames.tail := hend
    have hW' : U.WarmedH s₂.vm := hW₂
    have hs₂ : s₂ = ((({ U with heap := s₂.heap, slotsUsed := s₂.slotsUsed } : State).setVm s₂.vm).setTop g).pushFrame (.throwing q) := by
      refine e3.trans ?_
      rw [hf₂, State.calling_eq h.top, State.setFrames_setFrames, State.pushFrame, State.frames_setTop _ hr', State.setTop_of_frames _ hr', State.setFrames_setFrames, hr]
      rfl
    have hsame : U.sameButNew ({ U with heap := s₂.heap, slotsUsed := s₂.slotsUsed } : State) L mc ms := by
      refine ⟨?_, q2, q3, q4, q5, q6⟩
      obtain ⟨t, ht, -⟩ := State.frames_cons hr
      show ({ U with heap := s₂.heap, slotsUsed := s₂.slotsUsed } : State) = { U.setFrames U.frames with heap := s₂.heap, slotsUsed := s₂.slotsUsed }
      rw [State.setFrames_self ht]
    subst hg
    refine Or.inr ⟨q, ⟨(({ U with heap := s₂.heap, slotsUsed := s₂.slotsUsed } : State).setVm s₂.vm), Ls ++ L, c0 + mc, s0 + ms⟩,
      ⟨X.admits, X.cas, X.clock, X.frames, X.room, X.hears, X.method, X.code, (X.here.setHeapUsed s₂.heap s₂.slotsUsed).setVm hW'.alike, X.tail, State.WarmedH.trans X.warmed hW', X.limits, X.bytes, X.same.trans (hsame.setVm s.vm)⟩,
      ⟨g, mk, s₂, L, E, ce, rfl, rfl, hx, hce, hcv, hcl, rfl, hL, rfl, rfl⟩, ?_⟩
    show Steps p.tables e below _ (((({ U with heap := s₂.heap, slotsUsed := s₂.slotsUsed } : State).setVm s₂.vm).setTop g).pushFrame (.throwing q))
    rw [← hs₂]
    exact hsteps
end
variable {p : Program} {l : Launch} {e : Env} {R : Room} {s : State} {m : MethodId} {args : Array Value} {below : List Frame} {meth : Method} {c : Code} {T : State} {H : Heap} {locs : List Loc} {cells slots : Nat}
theorem vx_callVX (X : Stand p l e R s m args below meth c T locs cells slots) (hexec : p.tables.exec = Jvm.exec) {own C : String} {index : Nat} {y : MethodName} {bytes : ByteArray} {maxL : Nat} {ret : Option FieldType} {hh : List (Nat × Nat × Nat × Nat)}
    (hown : s.vm.findClass own = some m.cls) (hlink : (Cond.methodLink own index y).before args s = true) (hinst : (Cond.instanceMethod y).before args s = true) (hsel : (Cond.selects C y y).before args s = true)
    (hcode : (Cond.codeWith y bytes maxL ret hh).before args s = true) (hy : y.cls ≠ "java/lang/invoke/MethodHandle" ∧ y.cls ≠ "java/lang/invoke/VarHandle")
    {W9 : Nat} {Pre : Pt → Array Value → Prop} {Post : Pt → Array Value → Option Value → Pt → Prop} {PostX : Pt → Array Value → Addr → Pt → Prop} (hK : vx_Back l R p e below s args y 3 W9 Pre Post PostX)
    {b : Addr} {cellB : Cell} (hcell : T.heap[b]? = some cellB) (hobj : cellB.vm.isStatics = false) (hcls : s.vm.findClass C = some cellB.cls)
    {g : JFrame} (hg : g.method = m) (hsize : g.locals.size = c.maxLocals) {argsL rest : List Value} (hlen : ∀ sig, parseMethodDescriptor y.desc = some sig → argsL.length = sig.parameters.length)
    (hstack : g.stack = argsL.reverse ++ .ref b :: rest) (hW : 2 * g.monitorRoom + (rest.map fun v => v.category).sum ≤ W9) (hdg : decode c.code g.pc = .ok (.invokevirtual index, 3))
    (hpre : ∀ vm₁, s.WarmedH vm₁ → Pre ⟨T.setVm vm₁, locs, cells, slots⟩ (Value.ref b :: argsL).toArray) :
    (∃ (v : Option Value) (vm₁ : Vm) (B : Pt), s.WarmedH vm₁ ∧ Stand p l e R s m args below meth c B.U B.locs B.cells B.slots ∧ Post ⟨T.setVm vm₁, locs, cells, slots⟩ (Value.ref b :: argsL).toArray v B ∧
      ∀ target, Steps p.tables e below (B.U.setTop { g with pc := g.pc + 3, stack := v.toList ++ rest }) target → Steps p.tables e below (T.setTop g) target) ∨
    (∃ (q : Addr) (vm₁ : Vm) (B : Pt), s.WarmedH vm₁ ∧ Stand p l e R s m args below meth c B.U B.locs B.cells B.slots ∧ PostX ⟨T.setVm vm₁, locs, cells, slots⟩ (Value.ref b :: argsL).toArray q B ∧
      Steps p.tables e below (T.setTop g) ((B.U.setTop { g with stack := rest }).pushFrame (.throwing q))) := by
  obtain ⟨mk, methM, hnamed, hmethM, hstM, habM⟩ := Cond.instanceMethod_spec hinst
  obtain ⟨m8, methM', cM, hn8, hmethM', -, -, -, -, -, -, hsigM⟩ := Cond.codeWith_spec hcode
  cases Option.some.inj (hn8.symm.trans hnamed)
  cases hmethM.symm.trans hmethM'
  obtain ⟨c2, r2, m2, q1, q2, q3, q4, kP, hkP, hkPi⟩ := Cond.selects_spec hsel
  cases hcls.symm.trans q1
  cases (State.methodFound?_of_named hnamed hy).symm.trans q2
  cases hnamed.symm.trans q3
  have hselP : selectMethod e.platform s.vm cellB.cls mk = .method mk := by rw [Launch.admits_selectMethod X.admits]; exact q4
  obtain ⟨vm₁, X₁, hstep₁⟩ := X.invokevirtual hexec hown hlink hnamed hmethM hstM hkP hkPi hy (a := b) (cell := cellB) hcell
    (fun z h => by rw [h] at hobj; cases hobj) hselP hmethM habM hkP hkPi (g := g) hg (argsL := argsL) (rest := rest) (hlen _ hsigM) hstack hdg
  rcases hK m meth c ⟨T.setVm vm₁, locs, cells, slots⟩ { g with stack := rest } (.invokevirtual index) mk (Value.ref b :: argsL).toArray X₁ hg hsize hdg hW (X₁.named hnamed) (hpre vm₁ X₁.warmed) with ⟨v, B, X', hpost, hsteps⟩ | ⟨q, B, X', hpost, hsteps⟩
  · exact Or.inl ⟨v, vm₁, B, X₁.warmed, X', hpost, fun target h => hstep₁ _ fun acts => by rw [doInvoke_state]; exact hsteps.trans h⟩
  · exact Or.inr ⟨q, vm₁, B, X₁.warmed, X', hpost, hstep₁ _ fun acts => by rw [doInvoke_state]; exact hsteps⟩
theorem vx_callSX (X : Stand p l e R s m args below meth c T locs cells slots) (hexec : p.tables.exec = Jvm.exec) {own : String} {index : Nat} {y : MethodName} {bytes : ByteArray} {maxL : Nat} {ret : Option FieldType} {hh : List (Nat × Nat × Nat × Nat)}
    (hown : s.vm.findClass own = some m.cls) (hlink : (Cond.methodLink own index y).before args s = true) (hstat : (Cond.static y).before args s = true) (hinit : (Cond.initialized y.cls).before args s = true)
    (hcode : (Cond.codeWith y bytes maxL ret hh).before args s = true) (hy : y.cls ≠ "java/lang/invoke/MethodHandle" ∧ y.cls ≠ "java/lang/invoke/VarHandle")
    {W9 : Nat} {Pre : Pt → Array Value → Prop} {Post : Pt → Array Value → Option Value → Pt → Prop} {PostX : Pt → Array Value → Addr → Pt → Prop} (hK : vx_Back l R p e below s args y 3 W9 Pre Post PostX)
    {g : JFrame} (hg : g.method = m) (hsize : g.locals.size = c.maxLocals) {argsL rest : List Value} (hlen : ∀ sig, parseMethodDescriptor y.desc = some sig → argsL.length = sig.parameters.length)
    (hstack : g.stack = argsL.reverse ++ rest) (hW : 2 * g.monitorRoom + (rest.map fun v => v.category).sum ≤ W9) (hdg : decode c.code g.pc = .ok (.invokestatic index, 3))
    (hpre : ∀ vm₁, s.WarmedH vm₁ → Pre ⟨T.setVm vm₁, locs, cells, slots⟩ argsL.toArray) :
    (∃ (v : Option Value) (vm₁ : Vm) (B : Pt), s.WarmedH vm₁ ∧ Stand p l e R s m args below meth c B.U B.locs B.cells B.slots ∧ Post ⟨T.setVm vm₁, locs, cells, slots⟩ argsL.toArray v B ∧
      ∀ target, Steps p.tables e below (B.U.setTop { g with pc := g.pc + 3, stack := v.toList ++ rest }) target → Steps p.tables e below (T.setTop g) target) ∨
    (∃ (q : Addr) (vm₁ : Vm) (B : Pt), s.WarmedH vm₁ ∧ Stand p l e R s m args below meth c B.U B.locs B.cells B.slots ∧ PostX ⟨T.setVm vm₁, locs, cells, slots⟩ argsL.toArray q B ∧
      Steps p.tables e below (T.setTop g) ((B.U.setTop { g with stack := rest }).pushFrame (.throwing q))) := by
  obtain ⟨mk, methM, cM, hnamed, hmethM, -, -, -, -, -, -, hsigM⟩ := Cond.codeWith_spec hcode
  have hstatic : methM.isStatic = true := Cond.static_spec hnamed hmethM hstat
  obtain ⟨kP, hkP, -⟩ := className_of_methodNamed hnamed
  have hinitP : kP.init = .initialized := Cond.initialized_spec (findClass_of_methodNamed hnamed) hkP hinit
  obtain ⟨vm₁, X₁, hstep₁⟩ := X.invokestatic hexec hown hlink hnamed hmethM hstatic hkP hinitP hy (g := g) hg (argsL := argsL) (rest := rest) (hlen _ hsigM) hstack hdg
  rcases hK m meth c ⟨T.setVm vm₁, locs, cells, slots⟩ { g with stack := rest } (.invokestatic index) mk argsL.toArray X₁ hg hsize hdg hW (X₁.named hnamed) (hpre vm₁ X₁.warmed) with ⟨v, B, X', hpost, hsteps⟩ | ⟨q, B, X', hpost, hsteps⟩
  · exact Or.inl ⟨v, vm₁, B, X₁.warmed, X', hpost, fun target h => hstep₁ _ fun acts => by rw [doInvoke_state]; exact hsteps.trans h⟩
  · exact Or.inr ⟨q, vm₁, B, X₁.warmed, X', hpost, hstep₁ _ fun acts => by rw [doInvoke_state]; exact hsteps⟩
theorem vx_callVW (X : Stand p l e R s m args below meth c T locs cells slots) (hexec : p.tables.exec = Jvm.exec) {own C : String} {index : Nat} {y : MethodName} {bytes : ByteArray} {maxL : Nat} {ret : Option FieldType} {hh : List (Nat × Nat × Nat × Nat)}
    (hown : s.vm.findClass own = some m.cls) (hlink : (Cond.methodLink own index y).before args s = true) (hinst : (Cond.instanceMethod y).before args s = true) (hsel : (Cond.selects C y y).before args s = true)
    (hcode : (Cond.codeWith y bytes maxL ret hh).before args s = true) (hy : y.cls ≠ "java/lang/invoke/MethodHandle" ∧ y.cls ≠ "java/lang/invoke/VarHandle")
    {W9 : Nat} {Pre : Pt → Array Value → Prop} {Post : Pt → Array Value → Option Value → Pt → Prop} (hK : Back l R p e below s args y 3 W9 Pre Post)
    {b : Addr} {cellB : Cell} (hcell : T.heap[b]? = some cellB) (hobj : cellB.vm.isStatics = false) (hcls : s.vm.findClass C = some cellB.cls)
    {g : JFrame} (hg : g.method = m) (hsize : g.locals.size = c.maxLocals) {argsL rest : List Value} (hlen : ∀ sig, parseMethodDescriptor y.desc = some sig → argsL.length = sig.parameters.length)
    (hstack : g.stack = argsL.reverse ++ .ref b :: rest) (hW : 2 * g.monitorRoom + (rest.map fun v => v.category).sum ≤ W9) (hdg : decode c.code g.pc = .ok (.invokevirtual index, 3))
    (hpre : ∀ vm₁, s.WarmedH vm₁ → Pre ⟨T.setVm vm₁, locs, cells, slots⟩ (Value.ref b :: argsL).toArray) :
    ∃ (v : Option Value) (vm₁ : Vm) (B : Pt), s.WarmedH vm₁ ∧ Stand p l e R s m args below meth c B.U B.locs B.cells B.slots ∧ Post ⟨T.setVm vm₁, locs, cells, slots⟩ (Value.ref b :: argsL).toArray v B ∧
      ∀ target, Steps p.tables e below (B.U.setTop { g with pc := g.pc + 3, stack := v.toList ++ rest }) target → Steps p.tables e below (T.setTop g) target := by
  obtain ⟨mk, methM, hnamed, hmethM, hstM, habM⟩ := Cond.instanceMethod_spec hinst
  obtain ⟨m8, methM', cM, hn8, hmethM', -, -, -, -, -, -, hsigM⟩ := Cond.codeWith_spec hcode
  cases Option.some.inj (hn8.symm.trans hnamed)
  cases hmethM.symm.trans hmethM'
  obtain ⟨c2, r2, m2, q1, q2, q3, q4, kP, hkP, hkPi⟩ := Cond.selects_spec hsel
  cases hcls.symm.trans q1
  cases (State.methodFound?_of_named hnamed hy).symm.trans q2
  cases hnamed.symm.trans q3
  have hselP : selectMethod e.platform s.vm cellB.cls mk = .method mk := by rw [Launch.admits_selectMethod X.admits]; exact q4
  obtain ⟨vm₁, X₁, hstep₁⟩ := X.invokevirtual hexec hown hlink hnamed hmethM hstM hkP hkPi hy (a := b) (cell := cellB) hcell
    (fun z h => by rw [h] at hobj; cases hobj) hselP hmethM habM hkP hkPi (g := g) hg (argsL := argsL) (rest := rest) (hlen _ hsigM) hstack hdg
  obtain ⟨v, B, X', hpost, hsteps⟩ := hK m meth c ⟨T.setVm vm₁, locs, cells, slots⟩ { g with stack := rest } (.invokevirtual index) mk (Value.ref b :: argsL).toArray X₁ hg hsize hdg hW (X₁.named hnamed) (hpre vm₁ X₁.warmed)
  exact ⟨v, vm₁, B, X₁.warmed, X', hpost, fun target h => hstep₁ _ fun acts => by rw [doInvoke_state]; exact hsteps.trans h⟩
abbrev vx_CVW (R : Room) (s : State) (args : Array Value) (own C : String) (index : Nat) (y : MethodName) (bytes : ByteArray) (maxL : Nat) (ret : Option FieldType) (hh : List (Nat × Nat × Nat × Nat)) (ws : List Cond) (rm : Room) (mc ms n : Nat) : Prop :=
  (rm.cells = mc ∧ rm.slots = ms ∧ rm.frames + 1 ≤ R.frames ∧ 8 + (maxL + 11) + rm.locals ≤ R.locals ∧ (∀ w ∈ ws, ∀ (a' : Array Value) (U : State), s.WarmedH U.vm → w.before a' U = true) ∧ Cond.codeWith y bytes maxL ret hh ∈ ws) ∧
  (Cond.codeWith y bytes maxL ret hh).before args s = true ∧ (Cond.initialized y.cls).before args s = true ∧ (y.cls ≠ "java/lang/invoke/MethodHandle" ∧ y.cls ≠ "java/lang/invoke/VarHandle") ∧
  (∀ sig, parseMethodDescriptor y.desc = some sig → n = sig.parameters.length) ∧ (Cond.methodLink own index y).before args s = true ∧ (Cond.instanceMethod y).before args s = true ∧ (Cond.selects C y y).before args s = true
theorem vx_cwVW {own C : String} {index maxL mc ms : Nat} {y : MethodName} {bytes : ByteArray} {ret : Option FieldType} {hh : List (Nat × Nat × Nat × Nat)} {Ts ws ws' : List Cond} {rm : Room} (n : Nat) (ht : ∀ w ∈ Ts, w.before args s = true) (hT : GoodIn Ts (wsV own index C y ws)) (hw : ws = Cond.codeWith y bytes maxL ret hh :: ws') (hrc : rm.cells = mc) (hrs : rm.slots = ms)
    (hd : y.cls = C ∧ y.cls ≠ "java/lang/invoke/MethodHandle" ∧ y.cls ≠ "java/lang/invoke/VarHandle" ∧ (parseMethodDescriptor y.desc).map (fun d => d.parameters.length) = some n) (hR : rm.frames + 1 ≤ R.frames ∧ 8 + (maxL + 11) + rm.locals ≤ R.locals) :
    vx_CVW R s args own C index y bytes maxL ret hh ws rm mc ms n := by
  obtain ⟨hC, hd⟩ := hd
  subst hC
  have ok : ∀ w ∈ wsV own index y.cls y ws, w.before args s = true := fun w h => ht w (hT w h).1
  have hG : GoodIn Ts ws := fun w h => hT w (by unfold wsV; exact List.mem_append_right _ h)
  have hc : Cond.codeWith y bytes maxL ret hh ∈ ws := by rw [hw]; exact List.mem_cons_self
  refine ⟨⟨hrc, hrs, hR.1, hR.2, pay_in ht hG, hc⟩, ht _ (hG _ hc).1, ok _ (by simp [wsV]), ⟨hd.1, hd.2.1⟩, fun sig h => ?_, ok _ (by simp [wsV]), ok _ (by simp [wsV]), ok _ (by simp [wsV])⟩
  have h2 := hd.2.2
  rw [h] at h2
  exact (Option.some.inj h2).symm
theorem vx_runVW {y : MethodName} {bytes cc : ByteArray} {maxL nL mc ms n index : Nat} {ret : Option FieldType} {hh : List (Nat × Nat × Nat × Nat)} {ws : List Cond} {rm : Room} {Pc : Array Value → State → Prop} {Qc : Array Value → State → Outcome → State → Prop} {free : Addr → Prop} {Ts : List Cond} {own C : String} {b : Addr} {As rest : List Value} {g : JFrame}
    (S : CallFix p m c cc nL s args Ts own) (hM : Met l y ws rm Pc Qc mc ms free) (cw : vx_CVW R s args own C index y bytes maxL ret hh ws rm mc ms n) (hp : PreV s H C b Pc As)
    (hg : g.method = m) (hn : As.length = n) (hsize : g.locals.size = nL) (hstack : g.stack = As.reverse ++ .ref b :: rest) (hW : 2 * g.monitorRoom + (rest.map fun v => v.category).sum ≤ 8) (hdg : decode cc g.pc = .ok (.invokevirtual index, 3)) (hf : cells + mc ≤ R.cells ∧ slots + ms ≤ R.slots) :
    va_Run p l e R s m args below meth c H locs cells slots mc ms g rest (Qc (Value.ref b :: As).toArray) free := by
  obtain ⟨⟨hrc, hrs, hfr, hlo, hws, hcw⟩, hcode, hini, hy, hlen, hl, hin, hse⟩ := cw
  have hK : Back l R p e below s args y 3 8 (PreOf R mc ms Pc) (PostOf Qc mc ms free) := va_backW (hh := hh) (bytes := bytes) (maxL := maxL) (ret := ret) hM hp.1 hrc hrs hfr hlo hws hcw (fun a' U hW => word_at hW (Or.inl (by first | rfl | simp [Cond.onTables, Cond.keeps, Cond.steady])) hini)
  obtain ⟨hx, hb, hml, ho, -⟩ := S
  obtain ⟨-, ⟨cellB, hcB, hoB, hclB⟩, hPc⟩ := hp
  intro T hT X
  obtain ⟨v, vm₁, ⟨U', l2, c2, s2⟩, hW₁, X', ⟨g', mk, t, L, e1, e2, hq, h1, hL, h2, h3⟩, st⟩ := vx_callVW X hx (C := C) (hh := hh) (bytes := bytes) (maxL := maxL) (ret := ret) ho hl hin hse hcode hy hK (by rw [hT]; exact hcB) hoB hclB hg (hsize.trans hml.symm) (argsL := As) (rest := rest) (fun sig h => hn.trans (hlen sig h)) hstack hW (by rw [hb]; exact hdg)
    (fun vm₁ hW₁ => ⟨hf.1, hf.2, hPc (T.setVm vm₁) hT hW₁⟩)
  dsimp only [Pt.U, Pt.locs, Pt.cells, Pt.slots] at X' e1 e2 h1 h2 h3 st
  subst h1; subst h2; subst h3
  exact ⟨v, (T.setVm vm₁).calling g' mk (Value.ref b :: As).toArray, t, U', L, hT, X', hL, e1, e2, hq, st⟩
section
variable {y : MethodName} {bytes cc : ByteArray} {maxL nL mc ms n index : Nat} {ret : Option FieldType} {ws : List Cond} {rm : Room} {Pc : Array Value → State → Prop} {Qc : Array Value → State → Outcome → State → Prop} {XC : String → State → State → Prop} {free : Addr → Prop} {Ts : List Cond} {own C : String} {b : Addr} {As rest : List Value} {g : JFrame}
theorem vx_runVX {hh : List (Nat × Nat × Nat × Nat)} (S : CallFix p m c cc nL s args Ts own) (hM : vx_Met l y ws rm Pc Qc XC mc ms free) (cw : vx_CVW R s args own C index y bytes maxL ret hh ws rm mc ms n) (hp : PreV s H C b Pc As)
    (hg : g.method = m) (hn : As.length = n) (hsize : g.locals.size = nL) (hstack : g.stack = As.reverse ++ .ref b :: rest) (hW : 2 * g.monitorRoom + (rest.map fun v => v.category).sum ≤ 8) (hdg : decode cc g.pc = .ok (.invokevirtual index, 3)) (hf : cells + mc ≤ R.cells ∧ slots + ms ≤ R.slots) :
    vx_Run p l e R s m args below meth c H locs cells slots mc ms g rest (Qc (Value.ref b :: As).toArray) XC free := by
  obtain ⟨⟨hrc, hrs, hfr, hlo, hws, hcw⟩, hcode, hini, hy, hlen, hl, hin, hse⟩ := cw
  have hK : vx_Back l R p e below s args y 3 8 (PreOf R mc ms Pc) (PostOf Qc mc ms free) (vx_Post XC mc ms free) := vx_backW (hh := hh) (bytes := bytes) (maxL := maxL) (ret := ret) hM hp.1 hrc hrs hfr hlo hws hcw (fun a' U hW => word_at hW (Or.inl (by first | rfl | simp [Cond.onTables, Cond.keeps, Cond.steady])) hini)
  obtain ⟨hx, hb, hml, ho, -⟩ := S
  obtain ⟨-, ⟨cellB, hcB, hoB, hclB⟩, hPc⟩ := hp
  intro T hT X
  rcases vx_callVX X hx (C := C) (hh := hh) (bytes := bytes) (maxL := maxL) (ret := ret) ho hl hin hse hcode hy hK (by rw [hT]; exact hcB) hoB hclB hg (hsize.trans hml.symm) (argsL := As) (rest := rest) (fun sig h => hn.trans (hlen sig h)) hstack hW (by rw [hb]; exact hdg)
    (fun vm₁ hW₁ => ⟨hf.1, hf.2, hPc (T.setVm vm₁) hT hW₁⟩) with ⟨v, vm₁, ⟨U', l2, c2, s2⟩, hW₁, X', ⟨g', mk, t, L, e1, e2, hq, h1, hL, h2, h3⟩, st⟩ | ⟨q, vm₁, ⟨U', l2, c2, s2⟩, hW₁, X', ⟨g', mk, t, L, E, ce, e1, e2, hq, hce, hcv, hcl, h1, hL, h2, h3⟩, st⟩
  · dsimp only [Pt.U, Pt.locs, Pt.cells, Pt.slots] at X' e1 e2 h1 h2 h3 st
    subst h1; subst h2; subst h3
    exact Or.inl ⟨v, (T.setVm vm₁).calling g' mk (Value.ref b :: As).toArray, t, U', L, hT, X', hL, e1, e2, hq, st⟩
  · dsimp only [Pt.U, Pt.locs, Pt.cells, Pt.slots] at X' e1 e2 h1 h2 h3 st hcl
    subst h1; subst h2; subst h3
    exact Or.inr ⟨q, (T.setVm vm₁).calling g' mk (Value.ref b :: As).toArray, t, U', L, E, ce, hT, X', hL, e1, e2, hq, hce, hcv, vx_cls hW₁ hcl, st⟩
theorem vx_runSX {hh : List (Nat × Nat × Nat × Nat)} (S : CallFix p m c cc nL s args Ts own) (hM : vx_Met l y ws rm Pc Qc XC mc ms free) (cw : vx_CSW R s args own index y bytes maxL ret hh ws rm mc ms n) (hp : PreS s H Pc As)
    (hg : g.method = m) (hn : As.length = n) (hsize : g.locals.size = nL) (hstack : g.stack = As.reverse ++ rest) (hW : 2 * g.monitorRoom + (rest.map fun v => v.category).sum ≤ 8) (hdg : decode cc g.pc = .ok (.invokestatic index, 3)) (hf : cells + mc ≤ R.cells ∧ slots + ms ≤ R.slots) :
    vx_Run p l e R s m args below meth c H locs cells slots mc ms g rest (Qc As.toArray) XC free := by
  obtain ⟨⟨hrc, hrs, hfr, hlo, hws, hcw⟩, hcode, hini, hy, hlen, hl, hstt⟩ := cw
  have hK : vx_Back l R p e below s args y 3 8 (PreOf R mc ms Pc) (PostOf Qc mc ms free) (vx_Post XC mc ms free) := vx_backW (hh := hh) (bytes := bytes) (maxL := maxL) (ret := ret) hM hp.1 hrc hrs hfr hlo hws hcw (fun a' U hW => word_at hW (Or.inl (by first | rfl | simp [Cond.onTables, Cond.keeps, Cond.steady])) hini)
  obtain ⟨hx, hb, hml, ho, -⟩ := S
  intro T hT X
  rcases vx_callSX X hx (hh := hh) (bytes := bytes) (maxL := maxL) (ret := ret) ho hl hstt hini hcode hy hK hg (hsize.trans hml.symm) (argsL := As) (rest := rest) (fun sig h => hn.trans (hlen sig h)) hstack hW (by rw [hb]; exact hdg)
    (fun vm₁ hW₁ => ⟨hf.1, hf.2, hp.2 (T.setVm vm₁) hT hW₁⟩) with ⟨v, vm₁, ⟨U', l2, c2, s2⟩, hW₁, X', ⟨g', mk, t, L, e1, e2, hq, h1, hL, h2, h3⟩, st⟩ | ⟨q, vm₁, ⟨U', l2, c2, s2⟩, hW₁, X', ⟨g', mk, t, L, E, ce, e1, e2, hq, hce, hcv, hcl, h1, hL, h2, h3⟩, st⟩
  · dsimp only [Pt.U, Pt.locs, Pt.cells, Pt.slots] at X' e1 e2 h1 h2 h3 st
    subst h1; subst h2; subst h3
    exact Or.inl ⟨v, (T.setVm vm₁).calling g' mk As.toArray, t, U', L, hT, X', hL, e1, e2, hq, st⟩
  · dsimp only [Pt.U, Pt.locs, Pt.cells, Pt.slots] at X' e1 e2 h1 h2 h3 st hcl
    subst h1; subst h2; subst h3
    exact Or.inr ⟨q, (T.setVm vm₁).calling g' mk As.toArray, t, U', L, E, ce, hT, X', hL, e1, e2, hq, hce, hcv, vx_cls hW₁ hcl, st⟩
end
end VXH
theorem vx_ofWH {l : Launch} {y : MethodName} {ws ws' : List Cond} {rm : Room} {Pc : Array Value → State → Prop} {Qc : Array Value → State → Outcome → State → Prop} {XC : String → State → State → Prop} {mc ms : Nat} {free : Addr → Prop} {cc : ByteArray} {maxL : Nat} {ret : Option FieldType} {hh : List (Nat × Nat × Nat × Nat)}
    (hy : plainName y.cls = true) (hw : ws = Cond.codeWith y cc maxL ret hh :: ws')
    (body : ∀ p e s m args below meth c s₁, BodyLoose p l y (headSpec ws rm) cc maxL ret e s m args below meth c s₁ → c.maxLocals = maxL → Pc args s →
      W p l e (headSpec ws rm).room s m args below meth c s.heap [] 0 0 (vx_MQ below Qc XC args s mc ms free) (entryFrame m args maxL)) : vx_Met l y ws rm Pc Qc XC mc ms free := by
  refine MetFree.of_bodyS (code := cc) (maxLocals := maxL) (ret := ret) hy ?_ ?_
  · intro args s m h hn
    obtain ⟨m9, meth, c, hn9, h1, h2, h3, h4, -, h5, h6, -⟩ := Cond.codeWith_spec (atoms_spec (ws := ws) h _ (by rw [hw]; exact List.mem_cons_self))
    cases hn.symm.trans hn9
    exact ⟨meth, c, h1, h2, h3, h4, h5, h6⟩
  · intro p e s m args below meth c s₁ B hml hP _
    have hh0 : s₁.heap = s.heap := by rw [B.state]; rfl
    obtain ⟨t, a1, o, b1, b2, b3⟩ := body p e s m args below meth c s₁ B hml hP s₁ hh0 (Stand.of_body B)
    exact ⟨t, o, a1, b1, b2, b3⟩
/-! ===== END ===== -/
end
section
def RX0 : String := "FireEngines$Engine"
def TX0 : u_T := fun k => match k with
  | 0 => ("FireEngines$Engine", "cell", "I", false)
  | 1 => ("FireEngines$Engine", "horses", "I", false)
  | 2 => ("FireEngines$Engine", "power", "I", false)
  | 3 => ("FireEngines$Engine", "coal", "I", false)
  | 4 => ("FireEngines$Engine", "steam", "I", false)
  | 5 => ("FireEngines$Engine", "minutesLeft", "I", false)
  | 6 => ("FireEngines$Engine", "goal", "I", false)
  | 7 => ("FireEngines$Engine", "hose", "I", false)
  | 8 => ("FireEngines$Engine", "came", "I", false)
  | 9 => ("FireEngines$Engine", "gave", "I", false)
  | _ => ("FireEngines$Engine", "asked", "Z", false)
def tyX0 : Nat → FieldType := fun k => match k with
  | 0 => .int
  | 1 => .int
  | 2 => .int
  | 3 => .int
  | 4 => .int
  | 5 => .int
  | 6 => .int
  | 7 => .int
  | 8 => .int
  | 9 => .int
  | _ => .boolean
abbrev wsX00 : List Cond := u_ws RX0 TX0 11
theorem nmX0 : ∀ a, a < 11 → ∀ b, b < 11 → a ≠ b → (TX0 a).2.1 ≠ (TX0 b).2.1 := by decide +kernel
theorem tyX0_ok : ∀ k, k < 11 → parseFieldDescriptor (TX0 k).2.2.1 = some (tyX0 k) := by decide +kernel
abbrev cX0_init : ByteArray := prog_2_method_1_code
def yX0_init : MethodName := ⟨RX0, "<init>", "(III)V"⟩
abbrev cX0_copyFrom : ByteArray := prog_2_method_2_code
def yX0_copyFrom : MethodName := ⟨RX0, "copyFrom", "(LFireEngines$Engine;)V"⟩
abbrev cX0_stands : ByteArray := prog_2_method_3_code
def yX0_stands : MethodName := ⟨RX0, "stands", "()Z"⟩
abbrev cX0_canPump : ByteArray := prog_2_method_4_code
def yX0_canPump : MethodName := ⟨RX0, "canPump", "()I"⟩
abbrev cX0_setOut : ByteArray := prog_2_method_5_code
def yX0_setOut : MethodName := ⟨RX0, "setOut", "(II)V"⟩
abbrev cX0_fire : ByteArray := prog_2_method_6_code
def yX0_fire : MethodName := ⟨RX0, "fire", "()V"⟩
abbrev cX0_driveAMinute : ByteArray := prog_2_method_7_code
def yX0_driveAMinute : MethodName := ⟨RX0, "driveAMinute", "()V"⟩
abbrev cX0_spendSteam : ByteArray := prog_2_method_8_code
def yX0_spendSteam : MethodName := ⟨RX0, "spendSteam", "()V"⟩
def RX1 : String := "FireEngines$Ground"
def TX1 : u_T := fun k => match k with
  | 0 => ("FireEngines$Ground", "kinds", "[I", true)
  | 1 => ("FireEngines$Ground", "numbers", "[I", true)
  | _ => ("FireEngines$Ground", "steps", "[I", true)
def tyX1 : Nat → FieldType := fun k => match k with
  | 0 => .array .int
  | 1 => .array .int
  | _ => .array .int
abbrev wsX10 : List Cond := u_ws RX1 TX1 3
theorem nmX1 : ∀ a, a < 3 → ∀ b, b < 3 → a ≠ b → (TX1 a).2.1 ≠ (TX1 b).2.1 := by decide +kernel
theorem tyX1_ok : ∀ k, k < 3 → parseFieldDescriptor (TX1 k).2.2.1 = some (tyX1 k) := by decide +kernel
abbrev cX1_init : ByteArray := prog_3_method_1_code
def yX1_init : MethodName := ⟨RX1, "<init>", "()V"⟩
abbrev cX1_put : ByteArray := prog_3_method_2_code
def yX1_put : MethodName := ⟨RX1, "put", "(III)V"⟩
abbrev cX1_kindOf : ByteArray := prog_3_method_3_code
def yX1_kindOf : MethodName := ⟨RX1, "kindOf", "(I)I"⟩
abbrev cX1_numberOf : ByteArray := prog_3_method_4_code
def yX1_numberOf : MethodName := ⟨RX1, "numberOf", "(I)I"⟩
abbrev cX1_isStreet : ByteArray := prog_3_method_5_code
def yX1_isStreet : MethodName := ⟨RX1, "isStreet", "(I)Z"⟩
abbrev cX1_stepsBetween : ByteArray := prog_3_method_6_code
def yX1_stepsBetween : MethodName := ⟨RX1, "stepsBetween", "(II)I"⟩
abbrev cX1_spread : ByteArray := prog_3_method_7_code
def yX1_spread : MethodName := ⟨RX1, "spread", "(I)I"⟩
abbrev cX1_enter : ByteArray := prog_3_method_8_code
def yX1_enter : MethodName := ⟨RX1, "enter", "(III)I"⟩
def RX2 : String := "FireEngines$House"
def TX2 : u_T := fun k => match k with
  | 0 => ("FireEngines$House", "cell", "I", false)
  | 1 => ("FireEngines$House", "wood", "I", false)
  | 2 => ("FireEngines$House", "walls", "I", false)
  | 3 => ("FireEngines$House", "state", "I", false)
  | 4 => ("FireEngines$House", "heat", "I", false)
  | 5 => ("FireEngines$House", "came", "I", false)
  | _ => ("FireEngines$House", "cameInAll", "I", false)
def tyX2 : Nat → FieldType := fun k => match k with
  | 0 => .int
  | 1 => .int
  | 2 => .int
  | 3 => .int
  | 4 => .int
  | 5 => .int
  | _ => .int
abbrev wsX20 : List Cond := u_ws RX2 TX2 7
theorem nmX2 : ∀ a, a < 7 → ∀ b, b < 7 → a ≠ b → (TX2 a).2.1 ≠ (TX2 b).2.1 := by decide +kernel
theorem tyX2_ok : ∀ k, k < 7 → parseFieldDescriptor (TX2 k).2.2.1 = some (tyX2 k) := by decide +kernel
abbrev cX2_init : ByteArray := prog_4_method_1_code
def yX2_init : MethodName := ⟨RX2, "<init>", "(III)V"⟩
abbrev cX2_copyFrom : ByteArray := prog_4_method_2_code
def yX2_copyFrom : MethodName := ⟨RX2, "copyFrom", "(LFireEngines$House;)V"⟩
abbrev cX2_catchFire : ByteArray := prog_4_method_3_code
def yX2_catchFire : MethodName := ⟨RX2, "catchFire", "(I)V"⟩
abbrev cX2_takeWater : ByteArray := prog_4_method_4_code
def yX2_takeWater : MethodName := ⟨RX2, "takeWater", "(I)V"⟩
abbrev cX2_burnAMinute : ByteArray := prog_4_method_5_code
def yX2_burnAMinute : MethodName := ⟨RX2, "burnAMinute", "()V"⟩
abbrev cX2_endFire : ByteArray := prog_4_method_6_code
def yX2_endFire : MethodName := ⟨RX2, "endFire", "(I)V"⟩
abbrev cX2_tell : ByteArray := prog_4_method_7_code
def yX2_tell : MethodName := ⟨RX2, "tell", "(I)I"⟩
def RX3 : String := "FireEngines$Pond"
def TX3 : u_T := fun k => match k with
  | 0 => ("FireEngines$Pond", "cell", "I", false)
  | _ => ("FireEngines$Pond", "water", "I", false)
def tyX3 : Nat → FieldType := fun k => match k with
  | 0 => .int
  | _ => .int
abbrev wsX30 : List Cond := u_ws RX3 TX3 2
theorem nmX3 : ∀ a, a < 2 → ∀ b, b < 2 → a ≠ b → (TX3 a).2.1 ≠ (TX3 b).2.1 := by decide +kernel
theorem tyX3_ok : ∀ k, k < 2 → parseFieldDescriptor (TX3 k).2.2.1 = some (tyX3 k) := by decide +kernel
abbrev cX3_init : ByteArray := prog_5_method_1_code
def yX3_init : MethodName := ⟨RX3, "<init>", "(II)V"⟩
abbrev cX3_copyFrom : ByteArray := prog_5_method_2_code
def yX3_copyFrom : MethodName := ⟨RX3, "copyFrom", "(LFireEngines$Pond;)V"⟩
abbrev cX3_giveUpTo : ByteArray := prog_5_method_3_code
def yX3_giveUpTo : MethodName := ⟨RX3, "giveUpTo", "(I)I"⟩
def RX4 : String := "FireEngines$Town"
def TX4 : u_T := fun k => match k with
  | 0 => ("FireEngines$Town", "minute", "I", false)
  | 1 => ("FireEngines$Town", "houses", "Ljava/util/ArrayList;", true)
  | 2 => ("FireEngines$Town", "ponds", "Ljava/util/ArrayList;", true)
  | _ => ("FireEngines$Town", "engines", "Ljava/util/ArrayList;", true)
def tyX4 : Nat → FieldType := fun k => match k with
  | 0 => .int
  | 1 => .object "java/util/ArrayList"
  | 2 => .object "java/util/ArrayList"
  | _ => .object "java/util/ArrayList"
abbrev wsX40 : List Cond := u_ws RX4 TX4 4
theorem nmX4 : ∀ a, a < 4 → ∀ b, b < 4 → a ≠ b → (TX4 a).2.1 ≠ (TX4 b).2.1 := by decide +kernel
theorem tyX4_ok : ∀ k, k < 4 → parseFieldDescriptor (TX4 k).2.2.1 = some (tyX4 k) := by decide +kernel
abbrev cX4_init : ByteArray := prog_6_method_1_code
def yX4_init : MethodName := ⟨RX4, "<init>", "()V"⟩
abbrev cX4_copyFrom : ByteArray := prog_6_method_2_code
def yX4_copyFrom : MethodName := ⟨RX4, "copyFrom", "(LFireEngines$Town;)V"⟩
abbrev cX4_tell : ByteArray := prog_6_method_3_code
def yX4_tell : MethodName := ⟨RX4, "tell", "(I)I"⟩
abbrev cX4_tellEngine : ByteArray := prog_6_method_4_code
def yX4_tellEngine : MethodName := ⟨RX4, "tellEngine", "(LFireEngines$Engine;I)I"⟩
abbrev cX4_housesThatAre : ByteArray := prog_6_method_5_code
def yX4_housesThatAre : MethodName := ⟨RX4, "housesThatAre", "(I)I"⟩
abbrev cX4_sumOverHouses : ByteArray := prog_6_method_6_code
def yX4_sumOverHouses : MethodName := ⟨RX4, "sumOverHouses", "(I)I"⟩
abbrev cX4_waterOfPonds : ByteArray := prog_6_method_7_code
def yX4_waterOfPonds : MethodName := ⟨RX4, "waterOfPonds", "()I"⟩
abbrev cX4_enginesOn : ByteArray := prog_6_method_8_code
def yX4_enginesOn : MethodName := ⟨RX4, "enginesOn", "(I)I"⟩
abbrev cX4_isGoal : ByteArray := prog_6_method_9_code
def yX4_isGoal : MethodName := ⟨RX4, "isGoal", "(I)Z"⟩
abbrev cX4_heatNear : ByteArray := prog_6_method_10_code
def yX4_heatNear : MethodName := ⟨RX4, "heatNear", "(I)I"⟩
abbrev cX4_pondBy : ByteArray := prog_6_method_11_code
def yX4_pondBy : MethodName := ⟨RX4, "pondBy", "(LFireEngines$Engine;)I"⟩
abbrev cX4_isEngine : ByteArray := prog_6_method_12_code
def yX4_isEngine : MethodName := ⟨RX4, "isEngine", "(I)Z"⟩
abbrev cX4_isHouse : ByteArray := prog_6_method_13_code
def yX4_isHouse : MethodName := ⟨RX4, "isHouse", "(I)Z"⟩
abbrev cX4_hosesLead : ByteArray := prog_6_method_14_code
def yX4_hosesLead : MethodName := ⟨RX4, "hosesLead", "(II)Z"⟩
abbrev cX4_takeUpHosesOfAndTo : ByteArray := prog_6_method_15_code
def yX4_takeUpHosesOfAndTo : MethodName := ⟨RX4, "takeUpHosesOfAndTo", "(I)V"⟩
abbrev cX4_goOn : ByteArray := prog_6_method_16_code
def yX4_goOn : MethodName := ⟨RX4, "goOn", "(I)I"⟩
abbrev cX4_fireAndDrive : ByteArray := prog_6_method_17_code
def yX4_fireAndDrive : MethodName := ⟨RX4, "fireAndDrive", "()V"⟩
abbrev cX4_moveWater : ByteArray := prog_6_method_18_code
def yX4_moveWater : MethodName := ⟨RX4, "moveWater", "()V"⟩
abbrev cX4_nextToAsk : ByteArray := prog_6_method_19_code
def yX4_nextToAsk : MethodName := ⟨RX4, "nextToAsk", "()I"⟩
abbrev cX4_waitsForWater : ByteArray := prog_6_method_20_code
def yX4_waitsForWater : MethodName := ⟨RX4, "waitsForWater", "(I)Z"⟩
abbrev cX4_ask : ByteArray := prog_6_method_21_code
def yX4_ask : MethodName := ⟨RX4, "ask", "(LFireEngines$Engine;)V"⟩
abbrev cX4_sendThroughHose : ByteArray := prog_6_method_22_code
def yX4_sendThroughHose : MethodName := ⟨RX4, "sendThroughHose", "(LFireEngines$Engine;)V"⟩
abbrev cX4_arriving : ByteArray := prog_6_method_23_code
def yX4_arriving : MethodName := ⟨RX4, "arriving", "(II)I"⟩
abbrev cX4_catchFire : ByteArray := prog_6_method_24_code
def yX4_catchFire : MethodName := ⟨RX4, "catchFire", "()I"⟩
def RX5 : String := "FireEngines"
def TX5 : u_T := fun k => match k with
  | 0 => ("FireEngines", "ground", "LFireEngines$Ground;", true)
  | 1 => ("FireEngines", "town", "LFireEngines$Town;", true)
  | _ => ("FireEngines", "ahead", "LFireEngines$Town;", true)
def tyX5 : Nat → FieldType := fun k => match k with
  | 0 => .object "FireEngines$Ground"
  | 1 => .object "FireEngines$Town"
  | _ => .object "FireEngines$Town"
abbrev wsX50 : List Cond := u_ws RX5 TX5 3
theorem nmX5 : ∀ a, a < 3 → ∀ b, b < 3 → a ≠ b → (TX5 a).2.1 ≠ (TX5 b).2.1 := by decide +kernel
theorem tyX5_ok : ∀ k, k < 3 → parseFieldDescriptor (TX5 k).2.2.1 = some (tyX5 k) := by decide +kernel
abbrev cX5_init : ByteArray := prog_1_method_1_code
def yX5_init : MethodName := ⟨RX5, "<init>", "()V"⟩
abbrev cX5_build : ByteArray := prog_1_method_2_code
def yX5_build : MethodName := ⟨RX5, "build", "(IIII)I"⟩
abbrev cX5_dig : ByteArray := prog_1_method_3_code
def yX5_dig : MethodName := ⟨RX5, "dig", "(III)I"⟩
abbrev cX5_light : ByteArray := prog_1_method_4_code
def yX5_light : MethodName := ⟨RX5, "light", "(II)I"⟩
abbrev cX5_cell : ByteArray := prog_1_method_5_code
def yX5_cell : MethodName := ⟨RX5, "cell", "(III)I"⟩
abbrev cX5_house : ByteArray := prog_1_method_6_code
def yX5_house : MethodName := ⟨RX5, "house", "(II)I"⟩
abbrev cX5_addEngine : ByteArray := prog_1_method_7_code
def yX5_addEngine : MethodName := ⟨RX5, "addEngine", "(IIII)I"⟩
abbrev cX5_stoke : ByteArray := prog_1_method_8_code
def yX5_stoke : MethodName := ⟨RX5, "stoke", "(II)I"⟩
abbrev cX5_drive : ByteArray := prog_1_method_9_code
def yX5_drive : MethodName := ⟨RX5, "drive", "(III)I"⟩
abbrev cX5_relay : ByteArray := prog_1_method_10_code
def yX5_relay : MethodName := ⟨RX5, "relay", "(II)I"⟩
abbrev cX5_aim : ByteArray := prog_1_method_11_code
def yX5_aim : MethodName := ⟨RX5, "aim", "(II)I"⟩
abbrev cX5_takeUp : ByteArray := prog_1_method_12_code
def yX5_takeUp : MethodName := ⟨RX5, "takeUp", "(I)Z"⟩
abbrev cX5_engine : ByteArray := prog_1_method_13_code
def yX5_engine : MethodName := ⟨RX5, "engine", "(II)I"⟩
abbrev cX5_pond : ByteArray := prog_1_method_14_code
def yX5_pond : MethodName := ⟨RX5, "pond", "(I)I"⟩
abbrev cX5_pass : ByteArray := prog_1_method_15_code
def yX5_pass : MethodName := ⟨RX5, "pass", "(I)I"⟩
abbrev cX5_count : ByteArray := prog_1_method_16_code
def yX5_count : MethodName := ⟨RX5, "count", "(I)I"⟩
abbrev cX5_foresee : ByteArray := prog_1_method_17_code
def yX5_foresee : MethodName := ⟨RX5, "foresee", "(II)I"⟩
abbrev cX5_lasts : ByteArray := prog_1_method_18_code
def yX5_lasts : MethodName := ⟨RX5, "lasts", "()I"⟩
abbrev cX5_weakest : ByteArray := prog_1_method_19_code
def yX5_weakest : MethodName := ⟨RX5, "weakest", "(I)I"⟩
abbrev cX5_advise : ByteArray := prog_1_method_20_code
def yX5_advise : MethodName := ⟨RX5, "advise", "(II)I"⟩
abbrev cX5_walls : ByteArray := prog_1_method_21_code
def yX5_walls : MethodName := ⟨RX5, "walls", "()D"⟩
abbrev cX5_digest : ByteArray := prog_1_method_22_code
def yX5_digest : MethodName := ⟨RX5, "digest", "()J"⟩
abbrev cX5_fallenIfAimed : ByteArray := prog_1_method_23_code
def yX5_fallenIfAimed : MethodName := ⟨RX5, "fallenIfAimed", "(III)I"⟩
abbrev cX5_isFree : ByteArray := prog_1_method_24_code
def yX5_isFree : MethodName := ⟨RX5, "isFree", "(I)Z"⟩
abbrev cX5_requireHouse : ByteArray := prog_1_method_25_code
def yX5_requireHouse : MethodName := ⟨RX5, "requireHouse", "(I)V"⟩
abbrev cX5_requireEngine : ByteArray := prog_1_method_26_code
def yX5_requireEngine : MethodName := ⟨RX5, "requireEngine", "(I)V"⟩
abbrev cX5_requireCell : ByteArray := prog_1_method_27_code
def yX5_requireCell : MethodName := ⟨RX5, "requireCell", "(II)V"⟩
abbrev cX5_requireQuestion : ByteArray := prog_1_method_28_code
def yX5_requireQuestion : MethodName := ⟨RX5, "requireQuestion", "(II)V"⟩
abbrev cX5_requireRange : ByteArray := prog_1_method_29_code
def yX5_requireRange : MethodName := ⟨RX5, "requireRange", "(III)V"⟩
abbrev cX5_requireState : ByteArray := prog_1_method_30_code
def yX5_requireState : MethodName := ⟨RX5, "requireState", "(Z)V"⟩
abbrev cX5_isOnMap : ByteArray := prog_1_method_31_code
def yX5_isOnMap : MethodName := ⟨RX5, "isOnMap", "(II)Z"⟩
abbrev cX5_cellAt : ByteArray := prog_1_method_32_code
def yX5_cellAt : MethodName := ⟨RX5, "cellAt", "(II)I"⟩
abbrev cX5_distance : ByteArray := prog_1_method_33_code
def yX5_distance : MethodName := ⟨RX5, "distance", "(II)I"⟩
abbrev cX5_areNear : ByteArray := prog_1_method_34_code
def yX5_areNear : MethodName := ⟨RX5, "areNear", "(II)Z"⟩
def RX6 : String := "FireEnginesModel"
def TX6 : u_T := fun k => match k with
  | 0 => ("FireEnginesModel", "thrown", "I", false)
  | 1 => ("FireEnginesModel", "houses", "I", false)
  | 2 => ("FireEnginesModel", "ponds", "I", false)
  | 3 => ("FireEnginesModel", "engines", "I", false)
  | 4 => ("FireEnginesModel", "pondCells", "[I", true)
  | 5 => ("FireEnginesModel", "water", "[I", true)
  | 6 => ("FireEnginesModel", "houseTable", "[I", true)
  | 7 => ("FireEnginesModel", "engineTable", "[I", true)
  | 8 => ("FireEnginesModel", "minute", "[I", true)
  | 9 => ("FireEnginesModel", "comes", "[I", true)
  | 10 => ("FireEnginesModel", "asked", "[Z", true)
  | 11 => ("FireEnginesModel", "steps", "[I", true)
  | _ => ("FireEnginesModel", "catches", "[Z", true)
def tyX6 : Nat → FieldType := fun k => match k with
  | 0 => .int
  | 1 => .int
  | 2 => .int
  | 3 => .int
  | 4 => .array .int
  | 5 => .array .int
  | 6 => .array .int
  | 7 => .array .int
  | 8 => .array .int
  | 9 => .array .int
  | 10 => .array .boolean
  | 11 => .array .int
  | _ => .array .boolean
abbrev wsX60 : List Cond := u_ws RX6 TX6 13
theorem nmX6 : ∀ a, a < 13 → ∀ b, b < 13 → a ≠ b → (TX6 a).2.1 ≠ (TX6 b).2.1 := by decide +kernel
theorem tyX6_ok : ∀ k, k < 13 → parseFieldDescriptor (TX6 k).2.2.1 = some (tyX6 k) := by decide +kernel
abbrev cX6_init : ByteArray := prog_8_method_1_code
def yX6_init : MethodName := ⟨RX6, "<init>", "()V"⟩
abbrev cX6_thrown : ByteArray := prog_8_method_2_code
def yX6_thrown : MethodName := ⟨RX6, "thrown", "()I"⟩
abbrev cX6_fail : ByteArray := prog_8_method_3_code
def yX6_fail : MethodName := ⟨RX6, "fail", "(I)I"⟩
abbrev cX6_isIn : ByteArray := prog_8_method_4_code
def yX6_isIn : MethodName := ⟨RX6, "isIn", "(III)Z"⟩
abbrev cX6_isCell : ByteArray := prog_8_method_5_code
def yX6_isCell : MethodName := ⟨RX6, "isCell", "(II)Z"⟩
abbrev cX6_columns : ByteArray := prog_8_method_6_code
def yX6_columns : MethodName := ⟨RX6, "columns", "(II)I"⟩
abbrev cX6_rows : ByteArray := prog_8_method_7_code
def yX6_rows : MethodName := ⟨RX6, "rows", "(II)I"⟩
abbrev cX6_isNear : ByteArray := prog_8_method_8_code
def yX6_isNear : MethodName := ⟨RX6, "isNear", "(II)Z"⟩
abbrev cX6_far : ByteArray := prog_8_method_9_code
def yX6_far : MethodName := ⟨RX6, "far", "(II)I"⟩
abbrev cX6_isHouse : ByteArray := prog_8_method_10_code
def yX6_isHouse : MethodName := ⟨RX6, "isHouse", "(I)Z"⟩
abbrev cX6_isEngine : ByteArray := prog_8_method_11_code
def yX6_isEngine : MethodName := ⟨RX6, "isEngine", "(I)Z"⟩
abbrev cX6_ho : ByteArray := prog_8_method_12_code
def yX6_ho : MethodName := ⟨RX6, "ho", "(II)I"⟩
abbrev cX6_setHo : ByteArray := prog_8_method_13_code
def yX6_setHo : MethodName := ⟨RX6, "setHo", "(III)V"⟩
abbrev cX6_en : ByteArray := prog_8_method_14_code
def yX6_en : MethodName := ⟨RX6, "en", "(II)I"⟩
abbrev cX6_setEn : ByteArray := prog_8_method_15_code
def yX6_setEn : MethodName := ⟨RX6, "setEn", "(III)V"⟩
abbrev cX6_houseAt : ByteArray := prog_8_method_16_code
def yX6_houseAt : MethodName := ⟨RX6, "houseAt", "(I)I"⟩
abbrev cX6_pondAt : ByteArray := prog_8_method_17_code
def yX6_pondAt : MethodName := ⟨RX6, "pondAt", "(I)I"⟩
abbrev cX6_isStreet : ByteArray := prog_8_method_18_code
def yX6_isStreet : MethodName := ⟨RX6, "isStreet", "(I)Z"⟩
abbrev cX6_isFree : ByteArray := prog_8_method_19_code
def yX6_isFree : MethodName := ⟨RX6, "isFree", "(I)Z"⟩
abbrev cX6_build : ByteArray := prog_8_method_20_code
def yX6_build : MethodName := ⟨RX6, "build", "(IIII)I"⟩
abbrev cX6_dig : ByteArray := prog_8_method_21_code
def yX6_dig : MethodName := ⟨RX6, "dig", "(III)I"⟩
abbrev cX6_with : ByteArray := prog_8_method_22_code
def yX6_with : MethodName := ⟨RX6, "with", "(I)I"⟩
abbrev cX6_light : ByteArray := prog_8_method_23_code
def yX6_light : MethodName := ⟨RX6, "light", "(II)I"⟩
abbrev cX6_heatNear : ByteArray := prog_8_method_24_code
def yX6_heatNear : MethodName := ⟨RX6, "heatNear", "(I)I"⟩
abbrev cX6_cell : ByteArray := prog_8_method_25_code
def yX6_cell : MethodName := ⟨RX6, "cell", "(III)I"⟩
abbrev cX6_house : ByteArray := prog_8_method_26_code
def yX6_house : MethodName := ⟨RX6, "house", "(II)I"⟩
abbrev cX6_addEngine : ByteArray := prog_8_method_27_code
def yX6_addEngine : MethodName := ⟨RX6, "addEngine", "(IIII)I"⟩
abbrev cX6_stoke : ByteArray := prog_8_method_28_code
def yX6_stoke : MethodName := ⟨RX6, "stoke", "(II)I"⟩
abbrev cX6_way : ByteArray := prog_8_method_29_code
def yX6_way : MethodName := ⟨RX6, "way", "(II)I"⟩
abbrev cX6_drive : ByteArray := prog_8_method_30_code
def yX6_drive : MethodName := ⟨RX6, "drive", "(III)I"⟩
abbrev cX6_stands : ByteArray := prog_8_method_31_code
def yX6_stands : MethodName := ⟨RX6, "stands", "(I)Z"⟩
abbrev cX6_leads : ByteArray := prog_8_method_32_code
def yX6_leads : MethodName := ⟨RX6, "leads", "(II)Z"⟩
abbrev cX6_relay : ByteArray := prog_8_method_33_code
def yX6_relay : MethodName := ⟨RX6, "relay", "(II)I"⟩
abbrev cX6_aim : ByteArray := prog_8_method_34_code
def yX6_aim : MethodName := ⟨RX6, "aim", "(II)I"⟩
abbrev cX6_takeUp : ByteArray := prog_8_method_35_code
def yX6_takeUp : MethodName := ⟨RX6, "takeUp", "(I)Z"⟩
abbrev cX6_source : ByteArray := prog_8_method_36_code
def yX6_source : MethodName := ⟨RX6, "source", "(I)I"⟩
abbrev cX6_canPump : ByteArray := prog_8_method_37_code
def yX6_canPump : MethodName := ⟨RX6, "canPump", "(I)I"⟩
abbrev cX6_engineTold : ByteArray := prog_8_method_38_code
def yX6_engineTold : MethodName := ⟨RX6, "engineTold", "(II)I"⟩
abbrev cX6_engine : ByteArray := prog_8_method_39_code
def yX6_engine : MethodName := ⟨RX6, "engine", "(II)I"⟩
abbrev cX6_pond : ByteArray := prog_8_method_40_code
def yX6_pond : MethodName := ⟨RX6, "pond", "(I)I"⟩
abbrev cX6_next : ByteArray := prog_8_method_41_code
def yX6_next : MethodName := ⟨RX6, "next", "()I"⟩
abbrev cX6_pump : ByteArray := prog_8_method_42_code
def yX6_pump : MethodName := ⟨RX6, "pump", "(I)V"⟩
abbrev cX6_pumpAll : ByteArray := prog_8_method_43_code
def yX6_pumpAll : MethodName := ⟨RX6, "pumpAll", "()V"⟩
abbrev cX6_burn : ByteArray := prog_8_method_44_code
def yX6_burn : MethodName := ⟨RX6, "burn", "(I)V"⟩
abbrev cX6_minuteOn : ByteArray := prog_8_method_45_code
def yX6_minuteOn : MethodName := ⟨RX6, "minuteOn", "()I"⟩
abbrev cX6_pass : ByteArray := prog_8_method_46_code
def yX6_pass : MethodName := ⟨RX6, "pass", "(I)I"⟩
abbrev cX6_counted : ByteArray := prog_8_method_47_code
def yX6_counted : MethodName := ⟨RX6, "counted", "(I)I"⟩
abbrev cX6_count : ByteArray := prog_8_method_48_code
def yX6_count : MethodName := ⟨RX6, "count", "(I)I"⟩
abbrev cX6_kept : ByteArray := prog_8_method_49_code
def yX6_kept : MethodName := ⟨RX6, "kept", "()[[I"⟩
abbrev cX6_bringBack : ByteArray := prog_8_method_50_code
def yX6_bringBack : MethodName := ⟨RX6, "bringBack", "([[I)V"⟩
abbrev cX6_foresee : ByteArray := prog_8_method_51_code
def yX6_foresee : MethodName := ⟨RX6, "foresee", "(II)I"⟩
abbrev cX6_lasts : ByteArray := prog_8_method_52_code
def yX6_lasts : MethodName := ⟨RX6, "lasts", "()I"⟩
abbrev cX6_weakest : ByteArray := prog_8_method_53_code
def yX6_weakest : MethodName := ⟨RX6, "weakest", "(I)I"⟩
abbrev cX6_advise : ByteArray := prog_8_method_54_code
def yX6_advise : MethodName := ⟨RX6, "advise", "(II)I"⟩
abbrev cX6_walls : ByteArray := prog_8_method_55_code
def yX6_walls : MethodName := ⟨RX6, "walls", "()D"⟩
abbrev cX6_digest : ByteArray := prog_8_method_56_code
def yX6_digest : MethodName := ⟨RX6, "digest", "()J"⟩
def RJx145de : String := "java/io/Serializable"
def TJx145de : u_T := fun k => match k with
  | _ => ("", "", "", false)
def tyJx145de : Nat → FieldType := fun k => match k with
  | _ => .int
abbrev wsJx145de0 : List Cond := u_ws RJx145de TJx145de 0
theorem nmJx145de : ∀ a, a < 0 → ∀ b, b < 0 → a ≠ b → (TJx145de a).2.1 ≠ (TJx145de b).2.1 := by decide +kernel
theorem tyJx145de_ok : ∀ k, k < 0 → parseFieldDescriptor (TJx145de k).2.2.1 = some (tyJx145de k) := by decide +kernel
def RJx8e188 : String := "java/lang/Cloneable"
def TJx8e188 : u_T := fun k => match k with
  | _ => ("", "", "", false)
def tyJx8e188 : Nat → FieldType := fun k => match k with
  | _ => .int
abbrev wsJx8e1880 : List Cond := u_ws RJx8e188 TJx8e188 0
theorem nmJx8e188 : ∀ a, a < 0 → ∀ b, b < 0 → a ≠ b → (TJx8e188 a).2.1 ≠ (TJx8e188 b).2.1 := by decide +kernel
theorem tyJx8e188_ok : ∀ k, k < 0 → parseFieldDescriptor (TJx8e188 k).2.2.1 = some (tyJx8e188 k) := by decide +kernel
def RJxab1ab : String := "java/lang/Iterable"
def TJxab1ab : u_T := fun k => match k with
  | _ => ("", "", "", false)
def tyJxab1ab : Nat → FieldType := fun k => match k with
  | _ => .int
abbrev wsJxab1ab0 : List Cond := u_ws RJxab1ab TJxab1ab 0
theorem nmJxab1ab : ∀ a, a < 0 → ∀ b, b < 0 → a ≠ b → (TJxab1ab a).2.1 ≠ (TJxab1ab b).2.1 := by decide +kernel
theorem tyJxab1ab_ok : ∀ k, k < 0 → parseFieldDescriptor (TJxab1ab k).2.2.1 = some (tyJxab1ab k) := by decide +kernel
def RJ9 : String := "java/lang/Math"
def TJ9 : u_T := fun k => match k with
  | _ => ("", "", "", false)
def tyJ9 : Nat → FieldType := fun k => match k with
  | _ => .int
abbrev wsJ90 : List Cond := u_ws RJ9 TJ9 0
theorem nmJ9 : ∀ a, a < 0 → ∀ b, b < 0 → a ≠ b → (TJ9 a).2.1 ≠ (TJ9 b).2.1 := by decide +kernel
theorem tyJ9_ok : ∀ k, k < 0 → parseFieldDescriptor (TJ9 k).2.2.1 = some (tyJ9 k) := by decide +kernel
abbrev cJ9_abs_0f7a4 : ByteArray := prog_16_method_59_code
def yJ9_abs_0f7a4 : MethodName := ⟨RJ9, "abs", "(I)I"⟩
abbrev cJ9_max_7cf53 : ByteArray := prog_16_method_65_code
def yJ9_max_7cf53 : MethodName := ⟨RJ9, "max", "(II)I"⟩
abbrev cJ9_min_7cf53 : ByteArray := prog_16_method_69_code
def yJ9_min_7cf53 : MethodName := ⟨RJ9, "min", "(II)I"⟩
def RJ0 : String := "java/lang/String"
def TJ0 : u_T := fun k => match k with
  | _ => ("", "", "", false)
def tyJ0 : Nat → FieldType := fun k => match k with
  | _ => .int
abbrev wsJ00 : List Cond := u_ws RJ0 TJ0 0
theorem nmJ0 : ∀ a, a < 0 → ∀ b, b < 0 → a ≠ b → (TJ0 a).2.1 ≠ (TJ0 b).2.1 := by decide +kernel
theorem tyJ0_ok : ∀ k, k < 0 → parseFieldDescriptor (TJ0 k).2.2.1 = some (tyJ0 k) := by decide +kernel
def RJ10 : String := "java/lang/System"
def TJ10 : u_T := fun k => match k with
  | _ => ("", "", "", false)
def tyJ10 : Nat → FieldType := fun k => match k with
  | _ => .int
abbrev wsJ100 : List Cond := u_ws RJ10 TJ10 0
theorem nmJ10 : ∀ a, a < 0 → ∀ b, b < 0 → a ≠ b → (TJ10 a).2.1 ≠ (TJ10 b).2.1 := by decide +kernel
theorem tyJ10_ok : ∀ k, k < 0 → parseFieldDescriptor (TJ10 k).2.2.1 = some (tyJ10 k) := by decide +kernel
def RJxa1e45 : String := "java/util/AbstractCollection"
def TJxa1e45 : u_T := fun k => match k with
  | _ => ("", "", "", false)
def tyJxa1e45 : Nat → FieldType := fun k => match k with
  | _ => .int
abbrev wsJxa1e450 : List Cond := u_ws RJxa1e45 TJxa1e45 0
theorem nmJxa1e45 : ∀ a, a < 0 → ∀ b, b < 0 → a ≠ b → (TJxa1e45 a).2.1 ≠ (TJxa1e45 b).2.1 := by decide +kernel
theorem tyJxa1e45_ok : ∀ k, k < 0 → parseFieldDescriptor (TJxa1e45 k).2.2.1 = some (tyJxa1e45 k) := by decide +kernel
abbrev cJxa1e45_init_da8c8 : ByteArray := prog_21_method_1_code
def yJxa1e45_init_da8c8 : MethodName := ⟨RJxa1e45, "<init>", "()V"⟩
def RJxc12de : String := "java/util/AbstractList"
def TJxc12de : u_T := fun k => match k with
  | _ => ("", "", "", false)
def tyJxc12de : Nat → FieldType := fun k => match k with
  | _ => .int
abbrev wsJxc12de0 : List Cond := u_ws RJxc12de TJxc12de 0
theorem nmJxc12de : ∀ a, a < 0 → ∀ b, b < 0 → a ≠ b → (TJxc12de a).2.1 ≠ (TJxc12de b).2.1 := by decide +kernel
theorem tyJxc12de_ok : ∀ k, k < 0 → parseFieldDescriptor (TJxc12de k).2.2.1 = some (tyJxc12de k) := by decide +kernel
abbrev cJxc12de_init_da8c8 : ByteArray := prog_22_method_1_code
def yJxc12de_init_da8c8 : MethodName := ⟨RJxc12de, "<init>", "()V"⟩
def RJx4a65c : String := "java/util/ArrayList"
def TJx4a65c : u_T := fun k => match k with
  | 0 => ("java/util/AbstractList", "modCount", "I", false)
  | 1 => ("java/util/ArrayList", "elementData", "[Ljava/lang/Object;", false)
  | _ => ("java/util/ArrayList", "size", "I", false)
def tyJx4a65c : Nat → FieldType := fun k => match k with
  | 0 => .int
  | 1 => .array (.object "java/lang/Object")
  | _ => .int
abbrev wsJx4a65c0 : List Cond := u_ws RJx4a65c TJx4a65c 3
theorem nmJx4a65c : ∀ a, a < 3 → ∀ b, b < 3 → a ≠ b → (TJx4a65c a).2.1 ≠ (TJx4a65c b).2.1 := by decide +kernel
theorem tyJx4a65c_ok : ∀ k, k < 3 → parseFieldDescriptor (TJx4a65c k).2.2.1 = some (tyJx4a65c k) := by decide +kernel
abbrev cJx4a65c_init_da8c8 : ByteArray := prog_23_method_2_code
def yJx4a65c_init_da8c8 : MethodName := ⟨RJx4a65c, "<init>", "()V"⟩
abbrev cJx4a65c_grow_92f84 : ByteArray := prog_23_method_6_code
def yJx4a65c_grow_92f84 : MethodName := ⟨RJx4a65c, "grow", "(I)[Ljava/lang/Object;"⟩
abbrev cJx4a65c_grow_d5877 : ByteArray := prog_23_method_7_code
def yJx4a65c_grow_d5877 : MethodName := ⟨RJx4a65c, "grow", "()[Ljava/lang/Object;"⟩
abbrev cJx4a65c_size_8abf5 : ByteArray := prog_23_method_8_code
def yJx4a65c_size_8abf5 : MethodName := ⟨RJx4a65c, "size", "()I"⟩
abbrev cJx4a65c_elementData_915e3 : ByteArray := prog_23_method_18_code
def yJx4a65c_elementData_915e3 : MethodName := ⟨RJx4a65c, "elementData", "(I)Ljava/lang/Object;"⟩
abbrev cJx4a65c_get_915e3 : ByteArray := prog_23_method_20_code
def yJx4a65c_get_915e3 : MethodName := ⟨RJx4a65c, "get", "(I)Ljava/lang/Object;"⟩
abbrev cJx4a65c_add_72be8 : ByteArray := prog_23_method_24_code
def yJx4a65c_add_72be8 : MethodName := ⟨RJx4a65c, "add", "(Ljava/lang/Object;[Ljava/lang/Object;I)V"⟩
abbrev cJx4a65c_add_9ea2d : ByteArray := prog_23_method_25_code
def yJx4a65c_add_9ea2d : MethodName := ⟨RJx4a65c, "add", "(Ljava/lang/Object;)Z"⟩
def RJ7 : String := "java/util/Arrays"
def TJ7 : u_T := fun k => match k with
  | _ => ("", "", "", false)
def tyJ7 : Nat → FieldType := fun k => match k with
  | _ => .int
abbrev wsJ70 : List Cond := u_ws RJ7 TJ7 0
theorem nmJ7 : ∀ a, a < 0 → ∀ b, b < 0 → a ≠ b → (TJ7 a).2.1 ≠ (TJ7 b).2.1 := by decide +kernel
theorem tyJ7_ok : ∀ k, k < 0 → parseFieldDescriptor (TJ7 k).2.2.1 = some (tyJ7 k) := by decide +kernel
abbrev cJ7_fill_53178 : ByteArray := prog_24_method_103_code
def yJ7_fill_53178 : MethodName := ⟨RJ7, "fill", "([II)V"⟩
abbrev cJ7_copyOf_1904c : ByteArray := prog_24_method_119_code
def yJ7_copyOf_1904c : MethodName := ⟨RJ7, "copyOf", "([Ljava/lang/Object;I)[Ljava/lang/Object;"⟩
abbrev cJ7_copyOf_6403c : ByteArray := prog_24_method_120_code
def yJ7_copyOf_6403c : MethodName := ⟨RJ7, "copyOf", "([Ljava/lang/Object;ILjava/lang/Class;)[Ljava/lang/Object;"⟩
def RJx5ef63 : String := "java/util/Collection"
def TJx5ef63 : u_T := fun k => match k with
  | _ => ("", "", "", false)
def tyJx5ef63 : Nat → FieldType := fun k => match k with
  | _ => .int
abbrev wsJx5ef630 : List Cond := u_ws RJx5ef63 TJx5ef63 0
theorem nmJx5ef63 : ∀ a, a < 0 → ∀ b, b < 0 → a ≠ b → (TJx5ef63 a).2.1 ≠ (TJx5ef63 b).2.1 := by decide +kernel
theorem tyJx5ef63_ok : ∀ k, k < 0 → parseFieldDescriptor (TJx5ef63 k).2.2.1 = some (tyJx5ef63 k) := by decide +kernel
def RJxbd725 : String := "java/util/List"
def TJxbd725 : u_T := fun k => match k with
  | _ => ("", "", "", false)
def tyJxbd725 : Nat → FieldType := fun k => match k with
  | _ => .int
abbrev wsJxbd7250 : List Cond := u_ws RJxbd725 TJxbd725 0
theorem nmJxbd725 : ∀ a, a < 0 → ∀ b, b < 0 → a ≠ b → (TJxbd725 a).2.1 ≠ (TJxbd725 b).2.1 := by decide +kernel
theorem tyJxbd725_ok : ∀ k, k < 0 → parseFieldDescriptor (TJxbd725 k).2.2.1 = some (tyJxbd725 k) := by decide +kernel
def RJ15 : String := "java/util/Objects"
def TJ15 : u_T := fun k => match k with
  | _ => ("", "", "", false)
def tyJ15 : Nat → FieldType := fun k => match k with
  | _ => .int
abbrev wsJ150 : List Cond := u_ws RJ15 TJ15 0
theorem nmJ15 : ∀ a, a < 0 → ∀ b, b < 0 → a ≠ b → (TJ15 a).2.1 ≠ (TJ15 b).2.1 := by decide +kernel
theorem tyJ15_ok : ∀ k, k < 0 → parseFieldDescriptor (TJ15 k).2.2.1 = some (tyJ15 k) := by decide +kernel
abbrev cJ15_checkIndex_7cf53 : ByteArray := prog_27_method_17_code
def yJ15_checkIndex_7cf53 : MethodName := ⟨RJ15, "checkIndex", "(II)I"⟩
def RJxf0a74 : String := "java/util/RandomAccess"
def TJxf0a74 : u_T := fun k => match k with
  | _ => ("", "", "", false)
def tyJxf0a74 : Nat → FieldType := fun k => match k with
  | _ => .int
abbrev wsJxf0a740 : List Cond := u_ws RJxf0a74 TJxf0a74 0
theorem nmJxf0a74 : ∀ a, a < 0 → ∀ b, b < 0 → a ≠ b → (TJxf0a74 a).2.1 ≠ (TJxf0a74 b).2.1 := by decide +kernel
theorem tyJxf0a74_ok : ∀ k, k < 0 → parseFieldDescriptor (TJxf0a74 k).2.2.1 = some (tyJxf0a74 k) := by decide +kernel
def RJxa66e6 : String := "java/util/SequencedCollection"
def TJxa66e6 : u_T := fun k => match k with
  | _ => ("", "", "", false)
def tyJxa66e6 : Nat → FieldType := fun k => match k with
  | _ => .int
abbrev wsJxa66e60 : List Cond := u_ws RJxa66e6 TJxa66e6 0
theorem nmJxa66e6 : ∀ a, a < 0 → ∀ b, b < 0 → a ≠ b → (TJxa66e6 a).2.1 ≠ (TJxa66e6 b).2.1 := by decide +kernel
theorem tyJxa66e6_ok : ∀ k, k < 0 → parseFieldDescriptor (TJxa66e6 k).2.2.1 = some (tyJxa66e6 k) := by decide +kernel
def RJ8 : String := "jdk/internal/util/ArraysSupport"
def TJ8 : u_T := fun k => match k with
  | _ => ("", "", "", false)
def tyJ8 : Nat → FieldType := fun k => match k with
  | _ => .int
abbrev wsJ80 : List Cond := u_ws RJ8 TJ8 0
theorem nmJ8 : ∀ a, a < 0 → ∀ b, b < 0 → a ≠ b → (TJ8 a).2.1 ≠ (TJ8 b).2.1 := by decide +kernel
theorem tyJ8_ok : ∀ k, k < 0 → parseFieldDescriptor (TJ8 k).2.2.1 = some (tyJ8 k) := by decide +kernel
abbrev cJ8_newLength_cabcc : ByteArray := prog_30_method_27_code
def yJ8_newLength_cabcc : MethodName := ⟨RJ8, "newLength", "(III)I"⟩
abbrev cJ8_hugeLength_7cf53 : ByteArray := prog_30_method_28_code
def yJ8_hugeLength_7cf53 : MethodName := ⟨RJ8, "hugeLength", "(II)I"⟩
def RJ3 : String := "jdk/internal/util/Preconditions"
def TJ3 : u_T := fun k => match k with
  | _ => ("", "", "", false)
def tyJ3 : Nat → FieldType := fun k => match k with
  | _ => .int
abbrev wsJ30 : List Cond := u_ws RJ3 TJ3 0
theorem nmJ3 : ∀ a, a < 0 → ∀ b, b < 0 → a ≠ b → (TJ3 a).2.1 ≠ (TJ3 b).2.1 := by decide +kernel
theorem tyJ3_ok : ∀ k, k < 0 → parseFieldDescriptor (TJ3 k).2.2.1 = some (tyJ3 k) := by decide +kernel
abbrev cJ3_checkIndex_8e157 : ByteArray := prog_31_method_11_code
def yJ3_checkIndex_8e157 : MethodName := ⟨RJ3, "checkIndex", "(IILjava/util/function/BiFunction;)I"⟩
def RL : String := "FireEnginesLaw"
abbrev cL_build : ByteArray := method_3_code
def yL_build : MethodName := ⟨RL, "build", "(LFireEngines;IIII[J)I"⟩
abbrev cL_dig : ByteArray := method_4_code
def yL_dig : MethodName := ⟨RL, "dig", "(LFireEngines;III[J)I"⟩
abbrev cL_light : ByteArray := method_5_code
def yL_light : MethodName := ⟨RL, "light", "(LFireEngines;II[J)I"⟩
abbrev cL_cell : ByteArray := method_6_code
def yL_cell : MethodName := ⟨RL, "cell", "(LFireEngines;III[J)I"⟩
abbrev cL_house : ByteArray := method_7_code
def yL_house : MethodName := ⟨RL, "house", "(LFireEngines;II[J)I"⟩
abbrev cL_addEngine : ByteArray := method_8_code
def yL_addEngine : MethodName := ⟨RL, "addEngine", "(LFireEngines;IIII[J)I"⟩
abbrev cL_stoke : ByteArray := method_9_code
def yL_stoke : MethodName := ⟨RL, "stoke", "(LFireEngines;II[J)I"⟩
abbrev cL_drive : ByteArray := method_10_code
def yL_drive : MethodName := ⟨RL, "drive", "(LFireEngines;III[J)I"⟩
abbrev cL_relay : ByteArray := method_11_code
def yL_relay : MethodName := ⟨RL, "relay", "(LFireEngines;II[J)I"⟩
abbrev cL_aim : ByteArray := method_12_code
def yL_aim : MethodName := ⟨RL, "aim", "(LFireEngines;II[J)I"⟩
abbrev cL_takeUp : ByteArray := method_13_code
def yL_takeUp : MethodName := ⟨RL, "takeUp", "(LFireEngines;I[J)I"⟩
abbrev cL_engine : ByteArray := method_14_code
def yL_engine : MethodName := ⟨RL, "engine", "(LFireEngines;II[J)I"⟩
abbrev cL_pond : ByteArray := method_15_code
def yL_pond : MethodName := ⟨RL, "pond", "(LFireEngines;I[J)I"⟩
abbrev cL_pass : ByteArray := method_16_code
def yL_pass : MethodName := ⟨RL, "pass", "(LFireEngines;I[J)I"⟩
abbrev cL_count : ByteArray := method_17_code
def yL_count : MethodName := ⟨RL, "count", "(LFireEngines;I[J)I"⟩
abbrev cL_foresee : ByteArray := method_18_code
def yL_foresee : MethodName := ⟨RL, "foresee", "(LFireEngines;II[J)I"⟩
abbrev cL_weakest : ByteArray := method_19_code
def yL_weakest : MethodName := ⟨RL, "weakest", "(LFireEngines;I[J)I"⟩
abbrev cL_advise : ByteArray := method_20_code
def yL_advise : MethodName := ⟨RL, "advise", "(LFireEngines;II[J)I"⟩
abbrev cL_law : ByteArray := code
def yL_law : MethodName := ⟨RL, "law", "([I)Z"⟩
abbrev vwCl : List vw_C := [(RJx4a65c, TJx4a65c, 3), (RX0, TX0, 11), (RX1, TX1, 3), (RX2, TX2, 7), (RX3, TX3, 2), (RX4, TX4, 4), (RX5, TX5, 3), (RX6, TX6, 13)]
end
section
theorem dX0_init_0 : decode cX0_init 0 = .ok (.aload_n 0, 1) := by decide +kernel
theorem dX0_init_1 : decode cX0_init 1 = .ok (.invokespecial 3, 3) := by decide +kernel
theorem dX0_init_4 : decode cX0_init 4 = .ok (.aload_n 0, 1) := by decide +kernel
theorem dX0_init_5 : decode cX0_init 5 = .ok (.iload_n 1, 1) := by decide +kernel
theorem dX0_init_6 : decode cX0_init 6 = .ok (.putfield 9, 3) := by decide +kernel
theorem dX0_init_9 : decode cX0_init 9 = .ok (.aload_n 0, 1) := by decide +kernel
theorem dX0_init_10 : decode cX0_init 10 = .ok (.iload_n 2, 1) := by decide +kernel
theorem dX0_init_11 : decode cX0_init 11 = .ok (.putfield 15, 3) := by decide +kernel
theorem dX0_init_14 : decode cX0_init 14 = .ok (.aload_n 0, 1) := by decide +kernel
theorem dX0_init_15 : decode cX0_init 15 = .ok (.iload_n 3, 1) := by decide +kernel
theorem dX0_init_16 : decode cX0_init 16 = .ok (.putfield 18, 3) := by decide +kernel
theorem dX0_init_19 : decode cX0_init 19 = .ok (.aload_n 0, 1) := by decide +kernel
theorem dX0_init_20 : decode cX0_init 20 = .ok (.bipush 60, 2) := by decide +kernel
theorem dX0_init_22 : decode cX0_init 22 = .ok (.putfield 21, 3) := by decide +kernel
theorem dX0_init_25 : decode cX0_init 25 = .ok (.aload_n 0, 1) := by decide +kernel
theorem dX0_init_26 : decode cX0_init 26 = .ok (.iconst (-1), 1) := by decide +kernel
theorem dX0_init_27 : decode cX0_init 27 = .ok (.putfield 24, 3) := by decide +kernel
theorem dX0_init_30 : decode cX0_init 30 = .ok (.aload_n 0, 1) := by decide +kernel
theorem dX0_init_31 : decode cX0_init 31 = .ok (.iconst (-1), 1) := by decide +kernel
theorem dX0_init_32 : decode cX0_init 32 = .ok (.putfield 27, 3) := by decide +kernel
theorem dX0_init_35 : decode cX0_init 35 = .ok (.return_, 1) := by decide +kernel
theorem dX0_copyFrom_0 : decode cX0_copyFrom 0 = .ok (.aload_n 0, 1) := by decide +kernel
theorem dX0_copyFrom_1 : decode cX0_copyFrom 1 = .ok (.aload_n 1, 1) := by decide +kernel
theorem dX0_copyFrom_2 : decode cX0_copyFrom 2 = .ok (.getfield 9, 3) := by decide +kernel
theorem dX0_copyFrom_5 : decode cX0_copyFrom 5 = .ok (.putfield 9, 3) := by decide +kernel
theorem dX0_copyFrom_8 : decode cX0_copyFrom 8 = .ok (.aload_n 0, 1) := by decide +kernel
theorem dX0_copyFrom_9 : decode cX0_copyFrom 9 = .ok (.aload_n 1, 1) := by decide +kernel
theorem dX0_copyFrom_10 : decode cX0_copyFrom 10 = .ok (.getfield 15, 3) := by decide +kernel
theorem dX0_copyFrom_13 : decode cX0_copyFrom 13 = .ok (.putfield 15, 3) := by decide +kernel
theorem dX0_copyFrom_16 : decode cX0_copyFrom 16 = .ok (.aload_n 0, 1) := by decide +kernel
theorem dX0_copyFrom_17 : decode cX0_copyFrom 17 = .ok (.aload_n 1, 1) := by decide +kernel
theorem dX0_copyFrom_18 : decode cX0_copyFrom 18 = .ok (.getfield 18, 3) := by decide +kernel
theorem dX0_copyFrom_21 : decode cX0_copyFrom 21 = .ok (.putfield 18, 3) := by decide +kernel
theorem dX0_copyFrom_24 : decode cX0_copyFrom 24 = .ok (.aload_n 0, 1) := by decide +kernel
theorem dX0_copyFrom_25 : decode cX0_copyFrom 25 = .ok (.aload_n 1, 1) := by decide +kernel
theorem dX0_copyFrom_26 : decode cX0_copyFrom 26 = .ok (.getfield 21, 3) := by decide +kernel
theorem dX0_copyFrom_29 : decode cX0_copyFrom 29 = .ok (.putfield 21, 3) := by decide +kernel
theorem dX0_copyFrom_32 : decode cX0_copyFrom 32 = .ok (.aload_n 0, 1) := by decide +kernel
theorem dX0_copyFrom_33 : decode cX0_copyFrom 33 = .ok (.aload_n 1, 1) := by decide +kernel
theorem dX0_copyFrom_34 : decode cX0_copyFrom 34 = .ok (.getfield 30, 3) := by decide +kernel
theorem dX0_copyFrom_37 : decode cX0_copyFrom 37 = .ok (.putfield 30, 3) := by decide +kernel
theorem dX0_copyFrom_40 : decode cX0_copyFrom 40 = .ok (.aload_n 0, 1) := by decide +kernel
theorem dX0_copyFrom_41 : decode cX0_copyFrom 41 = .ok (.aload_n 1, 1) := by decide +kernel
theorem dX0_copyFrom_42 : decode cX0_copyFrom 42 = .ok (.getfield 33, 3) := by decide +kernel
theorem dX0_copyFrom_45 : decode cX0_copyFrom 45 = .ok (.putfield 33, 3) := by decide +kernel
theorem dX0_copyFrom_48 : decode cX0_copyFrom 48 = .ok (.aload_n 0, 1) := by decide +kernel
theorem dX0_copyFrom_49 : decode cX0_copyFrom 49 = .ok (.aload_n 1, 1) := by decide +kernel
theorem dX0_copyFrom_50 : decode cX0_copyFrom 50 = .ok (.getfield 24, 3) := by decide +kernel
theorem dX0_copyFrom_53 : decode cX0_copyFrom 53 = .ok (.putfield 24, 3) := by decide +kernel
theorem dX0_copyFrom_56 : decode cX0_copyFrom 56 = .ok (.aload_n 0, 1) := by decide +kernel
theorem dX0_copyFrom_57 : decode cX0_copyFrom 57 = .ok (.aload_n 1, 1) := by decide +kernel
theorem dX0_copyFrom_58 : decode cX0_copyFrom 58 = .ok (.getfield 27, 3) := by decide +kernel
theorem dX0_copyFrom_61 : decode cX0_copyFrom 61 = .ok (.putfield 27, 3) := by decide +kernel
theorem dX0_copyFrom_64 : decode cX0_copyFrom 64 = .ok (.aload_n 0, 1) := by decide +kernel
theorem dX0_copyFrom_65 : decode cX0_copyFrom 65 = .ok (.aload_n 1, 1) := by decide +kernel
theorem dX0_copyFrom_66 : decode cX0_copyFrom 66 = .ok (.getfield 36, 3) := by decide +kernel
theorem dX0_copyFrom_69 : decode cX0_copyFrom 69 = .ok (.putfield 36, 3) := by decide +kernel
theorem dX0_copyFrom_72 : decode cX0_copyFrom 72 = .ok (.aload_n 0, 1) := by decide +kernel
theorem dX0_copyFrom_73 : decode cX0_copyFrom 73 = .ok (.aload_n 1, 1) := by decide +kernel
theorem dX0_copyFrom_74 : decode cX0_copyFrom 74 = .ok (.getfield 39, 3) := by decide +kernel
theorem dX0_copyFrom_77 : decode cX0_copyFrom 77 = .ok (.putfield 39, 3) := by decide +kernel
theorem dX0_copyFrom_80 : decode cX0_copyFrom 80 = .ok (.aload_n 0, 1) := by decide +kernel
theorem dX0_copyFrom_81 : decode cX0_copyFrom 81 = .ok (.aload_n 1, 1) := by decide +kernel
theorem dX0_copyFrom_82 : decode cX0_copyFrom 82 = .ok (.getfield 42, 3) := by decide +kernel
theorem dX0_copyFrom_85 : decode cX0_copyFrom 85 = .ok (.putfield 42, 3) := by decide +kernel
theorem dX0_copyFrom_88 : decode cX0_copyFrom 88 = .ok (.return_, 1) := by decide +kernel
theorem dX0_stands_0 : decode cX0_stands 0 = .ok (.aload_n 0, 1) := by decide +kernel
theorem dX0_stands_1 : decode cX0_stands 1 = .ok (.getfield 33, 3) := by decide +kernel
theorem dX0_stands_4 : decode cX0_stands 4 = .ok (.ifCond .ne 7, 3) := by decide +kernel
theorem dX0_stands_7 : decode cX0_stands 7 = .ok (.iconst 1, 1) := by decide +kernel
theorem dX0_stands_8 : decode cX0_stands 8 = .ok (.goto 4, 3) := by decide +kernel
theorem dX0_stands_11 : decode cX0_stands 11 = .ok (.iconst 0, 1) := by decide +kernel
theorem dX0_stands_12 : decode cX0_stands 12 = .ok (.ireturn, 1) := by decide +kernel
theorem dX0_canPump_0 : decode cX0_canPump 0 = .ok (.aload_n 0, 1) := by decide +kernel
theorem dX0_canPump_1 : decode cX0_canPump 1 = .ok (.invokevirtual 46, 3) := by decide +kernel
theorem dX0_canPump_4 : decode cX0_canPump 4 = .ok (.ifCond .eq 27, 3) := by decide +kernel
theorem dX0_canPump_7 : decode cX0_canPump 7 = .ok (.aload_n 0, 1) := by decide +kernel
theorem dX0_canPump_8 : decode cX0_canPump 8 = .ok (.getfield 30, 3) := by decide +kernel
theorem dX0_canPump_11 : decode cX0_canPump 11 = .ok (.bipush 20, 2) := by decide +kernel
theorem dX0_canPump_13 : decode cX0_canPump 13 = .ok (.if_icmp .lt 18, 3) := by decide +kernel
theorem dX0_canPump_16 : decode cX0_canPump 16 = .ok (.aload_n 0, 1) := by decide +kernel
theorem dX0_canPump_17 : decode cX0_canPump 17 = .ok (.getfield 18, 3) := by decide +kernel
theorem dX0_canPump_20 : decode cX0_canPump 20 = .ok (.aload_n 0, 1) := by decide +kernel
theorem dX0_canPump_21 : decode cX0_canPump 21 = .ok (.getfield 30, 3) := by decide +kernel
theorem dX0_canPump_24 : decode cX0_canPump 24 = .ok (.imul, 1) := by decide +kernel
theorem dX0_canPump_25 : decode cX0_canPump 25 = .ok (.bipush 20, 2) := by decide +kernel
theorem dX0_canPump_27 : decode cX0_canPump 27 = .ok (.idiv, 1) := by decide +kernel
theorem dX0_canPump_28 : decode cX0_canPump 28 = .ok (.goto 4, 3) := by decide +kernel
theorem dX0_canPump_31 : decode cX0_canPump 31 = .ok (.iconst 0, 1) := by decide +kernel
theorem dX0_canPump_32 : decode cX0_canPump 32 = .ok (.ireturn, 1) := by decide +kernel
theorem dX0_setOut_0 : decode cX0_setOut 0 = .ok (.aload_n 0, 1) := by decide +kernel
theorem dX0_setOut_1 : decode cX0_setOut 1 = .ok (.iload_n 1, 1) := by decide +kernel
theorem dX0_setOut_2 : decode cX0_setOut 2 = .ok (.putfield 24, 3) := by decide +kernel
theorem dX0_setOut_5 : decode cX0_setOut 5 = .ok (.aload_n 0, 1) := by decide +kernel
theorem dX0_setOut_6 : decode cX0_setOut 6 = .ok (.iload_n 2, 1) := by decide +kernel
theorem dX0_setOut_7 : decode cX0_setOut 7 = .ok (.iconst 5, 1) := by decide +kernel
theorem dX0_setOut_8 : decode cX0_setOut 8 = .ok (.aload_n 0, 1) := by decide +kernel
theorem dX0_setOut_9 : decode cX0_setOut 9 = .ok (.getfield 15, 3) := by decide +kernel
theorem dX0_setOut_12 : decode cX0_setOut 12 = .ok (.isub, 1) := by decide +kernel
theorem dX0_setOut_13 : decode cX0_setOut 13 = .ok (.imul, 1) := by decide +kernel
theorem dX0_setOut_14 : decode cX0_setOut 14 = .ok (.putfield 33, 3) := by decide +kernel
theorem dX0_setOut_17 : decode cX0_setOut 17 = .ok (.return_, 1) := by decide +kernel
theorem dX0_fire_0 : decode cX0_fire 0 = .ok (.aload_n 0, 1) := by decide +kernel
theorem dX0_fire_1 : decode cX0_fire 1 = .ok (.getfield 21, 3) := by decide +kernel
theorem dX0_fire_4 : decode cX0_fire 4 = .ok (.ifCond .le 31, 3) := by decide +kernel
theorem dX0_fire_7 : decode cX0_fire 7 = .ok (.aload_n 0, 1) := by decide +kernel
theorem dX0_fire_8 : decode cX0_fire 8 = .ok (.dup, 1) := by decide +kernel
theorem dX0_fire_9 : decode cX0_fire 9 = .ok (.getfield 21, 3) := by decide +kernel
theorem dX0_fire_12 : decode cX0_fire 12 = .ok (.iconst 1, 1) := by decide +kernel
theorem dX0_fire_13 : decode cX0_fire 13 = .ok (.isub, 1) := by decide +kernel
theorem dX0_fire_14 : decode cX0_fire 14 = .ok (.putfield 21, 3) := by decide +kernel
theorem dX0_fire_17 : decode cX0_fire 17 = .ok (.aload_n 0, 1) := by decide +kernel
theorem dX0_fire_18 : decode cX0_fire 18 = .ok (.bipush 100, 2) := by decide +kernel
theorem dX0_fire_20 : decode cX0_fire 20 = .ok (.aload_n 0, 1) := by decide +kernel
theorem dX0_fire_21 : decode cX0_fire 21 = .ok (.getfield 30, 3) := by decide +kernel
theorem dX0_fire_24 : decode cX0_fire 24 = .ok (.iconst 4, 1) := by decide +kernel
theorem dX0_fire_25 : decode cX0_fire 25 = .ok (.iadd, 1) := by decide +kernel
theorem dX0_fire_26 : decode cX0_fire 26 = .ok (.invokestatic 50, 3) := by decide +kernel
theorem dX0_fire_29 : decode cX0_fire 29 = .ok (.putfield 30, 3) := by decide +kernel
theorem dX0_fire_32 : decode cX0_fire 32 = .ok (.goto 17, 3) := by decide +kernel
theorem dX0_fire_35 : decode cX0_fire 35 = .ok (.aload_n 0, 1) := by decide +kernel
theorem dX0_fire_36 : decode cX0_fire 36 = .ok (.iconst 0, 1) := by decide +kernel
theorem dX0_fire_37 : decode cX0_fire 37 = .ok (.aload_n 0, 1) := by decide +kernel
theorem dX0_fire_38 : decode cX0_fire 38 = .ok (.getfield 30, 3) := by decide +kernel
theorem dX0_fire_41 : decode cX0_fire 41 = .ok (.iconst 3, 1) := by decide +kernel
theorem dX0_fire_42 : decode cX0_fire 42 = .ok (.isub, 1) := by decide +kernel
theorem dX0_fire_43 : decode cX0_fire 43 = .ok (.invokestatic 56, 3) := by decide +kernel
theorem dX0_fire_46 : decode cX0_fire 46 = .ok (.putfield 30, 3) := by decide +kernel
theorem dX0_fire_49 : decode cX0_fire 49 = .ok (.return_, 1) := by decide +kernel
theorem dX0_driveAMinute_0 : decode cX0_driveAMinute 0 = .ok (.aload_n 0, 1) := by decide +kernel
theorem dX0_driveAMinute_1 : decode cX0_driveAMinute 1 = .ok (.invokevirtual 46, 3) := by decide +kernel
theorem dX0_driveAMinute_4 : decode cX0_driveAMinute 4 = .ok (.ifCond .eq 4, 3) := by decide +kernel
theorem dX0_driveAMinute_7 : decode cX0_driveAMinute 7 = .ok (.return_, 1) := by decide +kernel
theorem dX0_driveAMinute_8 : decode cX0_driveAMinute 8 = .ok (.aload_n 0, 1) := by decide +kernel
theorem dX0_driveAMinute_9 : decode cX0_driveAMinute 9 = .ok (.dup, 1) := by decide +kernel
theorem dX0_driveAMinute_10 : decode cX0_driveAMinute 10 = .ok (.getfield 33, 3) := by decide +kernel
theorem dX0_driveAMinute_13 : decode cX0_driveAMinute 13 = .ok (.iconst 1, 1) := by decide +kernel
theorem dX0_driveAMinute_14 : decode cX0_driveAMinute 14 = .ok (.isub, 1) := by decide +kernel
theorem dX0_driveAMinute_15 : decode cX0_driveAMinute 15 = .ok (.putfield 33, 3) := by decide +kernel
theorem dX0_driveAMinute_18 : decode cX0_driveAMinute 18 = .ok (.aload_n 0, 1) := by decide +kernel
theorem dX0_driveAMinute_19 : decode cX0_driveAMinute 19 = .ok (.getfield 33, 3) := by decide +kernel
theorem dX0_driveAMinute_22 : decode cX0_driveAMinute 22 = .ok (.ifCond .ne 16, 3) := by decide +kernel
theorem dX0_driveAMinute_25 : decode cX0_driveAMinute 25 = .ok (.aload_n 0, 1) := by decide +kernel
theorem dX0_driveAMinute_26 : decode cX0_driveAMinute 26 = .ok (.aload_n 0, 1) := by decide +kernel
theorem dX0_driveAMinute_27 : decode cX0_driveAMinute 27 = .ok (.getfield 24, 3) := by decide +kernel
theorem dX0_driveAMinute_30 : decode cX0_driveAMinute 30 = .ok (.putfield 9, 3) := by decide +kernel
theorem dX0_driveAMinute_33 : decode cX0_driveAMinute 33 = .ok (.aload_n 0, 1) := by decide +kernel
theorem dX0_driveAMinute_34 : decode cX0_driveAMinute 34 = .ok (.iconst (-1), 1) := by decide +kernel
theorem dX0_driveAMinute_35 : decode cX0_driveAMinute 35 = .ok (.putfield 24, 3) := by decide +kernel
theorem dX0_driveAMinute_38 : decode cX0_driveAMinute 38 = .ok (.return_, 1) := by decide +kernel
theorem dX0_spendSteam_0 : decode cX0_spendSteam 0 = .ok (.aload_n 0, 1) := by decide +kernel
theorem dX0_spendSteam_1 : decode cX0_spendSteam 1 = .ok (.getfield 39, 3) := by decide +kernel
theorem dX0_spendSteam_4 : decode cX0_spendSteam 4 = .ok (.ifCond .le 17, 3) := by decide +kernel
theorem dX0_spendSteam_7 : decode cX0_spendSteam 7 = .ok (.aload_n 0, 1) := by decide +kernel
theorem dX0_spendSteam_8 : decode cX0_spendSteam 8 = .ok (.iconst 0, 1) := by decide +kernel
theorem dX0_spendSteam_9 : decode cX0_spendSteam 9 = .ok (.aload_n 0, 1) := by decide +kernel
theorem dX0_spendSteam_10 : decode cX0_spendSteam 10 = .ok (.getfield 30, 3) := by decide +kernel
theorem dX0_spendSteam_13 : decode cX0_spendSteam 13 = .ok (.iconst 2, 1) := by decide +kernel
theorem dX0_spendSteam_14 : decode cX0_spendSteam 14 = .ok (.isub, 1) := by decide +kernel
theorem dX0_spendSteam_15 : decode cX0_spendSteam 15 = .ok (.invokestatic 56, 3) := by decide +kernel
theorem dX0_spendSteam_18 : decode cX0_spendSteam 18 = .ok (.putfield 30, 3) := by decide +kernel
theorem dX0_spendSteam_21 : decode cX0_spendSteam 21 = .ok (.return_, 1) := by decide +kernel
theorem dX1_init_0 : decode cX1_init 0 = .ok (.aload_n 0, 1) := by decide +kernel
theorem dX1_init_1 : decode cX1_init 1 = .ok (.invokespecial 3, 3) := by decide +kernel
theorem dX1_init_4 : decode cX1_init 4 = .ok (.aload_n 0, 1) := by decide +kernel
theorem dX1_init_5 : decode cX1_init 5 = .ok (.sipush 140, 3) := by decide +kernel
theorem dX1_init_8 : decode cX1_init 8 = .ok (.newarray .int, 2) := by decide +kernel
theorem dX1_init_10 : decode cX1_init 10 = .ok (.putfield 9, 3) := by decide +kernel
theorem dX1_init_13 : decode cX1_init 13 = .ok (.aload_n 0, 1) := by decide +kernel
theorem dX1_init_14 : decode cX1_init 14 = .ok (.sipush 140, 3) := by decide +kernel
theorem dX1_init_17 : decode cX1_init 17 = .ok (.newarray .int, 2) := by decide +kernel
theorem dX1_init_19 : decode cX1_init 19 = .ok (.putfield 15, 3) := by decide +kernel
theorem dX1_init_22 : decode cX1_init 22 = .ok (.aload_n 0, 1) := by decide +kernel
theorem dX1_init_23 : decode cX1_init 23 = .ok (.sipush 140, 3) := by decide +kernel
theorem dX1_init_26 : decode cX1_init 26 = .ok (.newarray .int, 2) := by decide +kernel
theorem dX1_init_28 : decode cX1_init 28 = .ok (.putfield 18, 3) := by decide +kernel
theorem dX1_init_31 : decode cX1_init 31 = .ok (.return_, 1) := by decide +kernel
theorem dX1_put_0 : decode cX1_put 0 = .ok (.aload_n 0, 1) := by decide +kernel
theorem dX1_put_1 : decode cX1_put 1 = .ok (.iload_n 1, 1) := by decide +kernel
theorem dX1_put_2 : decode cX1_put 2 = .ok (.invokevirtual 21, 3) := by decide +kernel
theorem dX1_put_5 : decode cX1_put 5 = .ok (.ifCond .eq 17, 3) := by decide +kernel
theorem dX1_put_8 : decode cX1_put 8 = .ok (.aload_n 0, 1) := by decide +kernel
theorem dX1_put_9 : decode cX1_put 9 = .ok (.getfield 9, 3) := by decide +kernel
theorem dX1_put_12 : decode cX1_put 12 = .ok (.iload_n 1, 1) := by decide +kernel
theorem dX1_put_13 : decode cX1_put 13 = .ok (.iload_n 2, 1) := by decide +kernel
theorem dX1_put_14 : decode cX1_put 14 = .ok (.iastore, 1) := by decide +kernel
theorem dX1_put_15 : decode cX1_put 15 = .ok (.aload_n 0, 1) := by decide +kernel
theorem dX1_put_16 : decode cX1_put 16 = .ok (.getfield 15, 3) := by decide +kernel
theorem dX1_put_19 : decode cX1_put 19 = .ok (.iload_n 1, 1) := by decide +kernel
theorem dX1_put_20 : decode cX1_put 20 = .ok (.iload_n 3, 1) := by decide +kernel
theorem dX1_put_21 : decode cX1_put 21 = .ok (.iastore, 1) := by decide +kernel
theorem dX1_put_22 : decode cX1_put 22 = .ok (.return_, 1) := by decide +kernel
theorem dX1_kindOf_0 : decode cX1_kindOf 0 = .ok (.iload_n 1, 1) := by decide +kernel
theorem dX1_kindOf_1 : decode cX1_kindOf 1 = .ok (.ifCond .lt 19, 3) := by decide +kernel
theorem dX1_kindOf_4 : decode cX1_kindOf 4 = .ok (.iload_n 1, 1) := by decide +kernel
theorem dX1_kindOf_5 : decode cX1_kindOf 5 = .ok (.sipush 140, 3) := by decide +kernel
theorem dX1_kindOf_8 : decode cX1_kindOf 8 = .ok (.if_icmp .ge 12, 3) := by decide +kernel
theorem dX1_kindOf_11 : decode cX1_kindOf 11 = .ok (.aload_n 0, 1) := by decide +kernel
theorem dX1_kindOf_12 : decode cX1_kindOf 12 = .ok (.getfield 9, 3) := by decide +kernel
theorem dX1_kindOf_15 : decode cX1_kindOf 15 = .ok (.iload_n 1, 1) := by decide +kernel
theorem dX1_kindOf_16 : decode cX1_kindOf 16 = .ok (.iaload, 1) := by decide +kernel
theorem dX1_kindOf_17 : decode cX1_kindOf 17 = .ok (.goto 4, 3) := by decide +kernel
theorem dX1_kindOf_20 : decode cX1_kindOf 20 = .ok (.iconst (-1), 1) := by decide +kernel
theorem dX1_kindOf_21 : decode cX1_kindOf 21 = .ok (.ireturn, 1) := by decide +kernel
theorem dX1_numberOf_0 : decode cX1_numberOf 0 = .ok (.iload_n 1, 1) := by decide +kernel
theorem dX1_numberOf_1 : decode cX1_numberOf 1 = .ok (.ifCond .lt 19, 3) := by decide +kernel
theorem dX1_numberOf_4 : decode cX1_numberOf 4 = .ok (.iload_n 1, 1) := by decide +kernel
theorem dX1_numberOf_5 : decode cX1_numberOf 5 = .ok (.sipush 140, 3) := by decide +kernel
theorem dX1_numberOf_8 : decode cX1_numberOf 8 = .ok (.if_icmp .ge 12, 3) := by decide +kernel
theorem dX1_numberOf_11 : decode cX1_numberOf 11 = .ok (.aload_n 0, 1) := by decide +kernel
theorem dX1_numberOf_12 : decode cX1_numberOf 12 = .ok (.getfield 9, 3) := by decide +kernel
theorem dX1_numberOf_15 : decode cX1_numberOf 15 = .ok (.iload_n 1, 1) := by decide +kernel
theorem dX1_numberOf_16 : decode cX1_numberOf 16 = .ok (.iaload, 1) := by decide +kernel
theorem dX1_numberOf_17 : decode cX1_numberOf 17 = .ok (.ifCond .ne 5, 3) := by decide +kernel
theorem dX1_numberOf_20 : decode cX1_numberOf 20 = .ok (.iconst (-1), 1) := by decide +kernel
theorem dX1_numberOf_21 : decode cX1_numberOf 21 = .ok (.ireturn, 1) := by decide +kernel
theorem dX1_numberOf_22 : decode cX1_numberOf 22 = .ok (.aload_n 0, 1) := by decide +kernel
theorem dX1_numberOf_23 : decode cX1_numberOf 23 = .ok (.getfield 15, 3) := by decide +kernel
theorem dX1_numberOf_26 : decode cX1_numberOf 26 = .ok (.iload_n 1, 1) := by decide +kernel
theorem dX1_numberOf_27 : decode cX1_numberOf 27 = .ok (.iaload, 1) := by decide +kernel
theorem dX1_numberOf_28 : decode cX1_numberOf 28 = .ok (.ireturn, 1) := by decide +kernel
theorem dX1_isStreet_0 : decode cX1_isStreet 0 = .ok (.aload_n 0, 1) := by decide +kernel
theorem dX1_isStreet_1 : decode cX1_isStreet 1 = .ok (.iload_n 1, 1) := by decide +kernel
theorem dX1_isStreet_2 : decode cX1_isStreet 2 = .ok (.invokevirtual 25, 3) := by decide +kernel
theorem dX1_isStreet_5 : decode cX1_isStreet 5 = .ok (.ifCond .ne 7, 3) := by decide +kernel
theorem dX1_isStreet_8 : decode cX1_isStreet 8 = .ok (.iconst 1, 1) := by decide +kernel
theorem dX1_isStreet_9 : decode cX1_isStreet 9 = .ok (.goto 4, 3) := by decide +kernel
theorem dX1_isStreet_12 : decode cX1_isStreet 12 = .ok (.iconst 0, 1) := by decide +kernel
theorem dX1_isStreet_13 : decode cX1_isStreet 13 = .ok (.ireturn, 1) := by decide +kernel
theorem dX1_stepsBetween_0 : decode cX1_stepsBetween 0 = .ok (.aload_n 0, 1) := by decide +kernel
theorem dX1_stepsBetween_1 : decode cX1_stepsBetween 1 = .ok (.iload_n 1, 1) := by decide +kernel
theorem dX1_stepsBetween_2 : decode cX1_stepsBetween 2 = .ok (.invokevirtual 21, 3) := by decide +kernel
theorem dX1_stepsBetween_5 : decode cX1_stepsBetween 5 = .ok (.ifCond .eq 11, 3) := by decide +kernel
theorem dX1_stepsBetween_8 : decode cX1_stepsBetween 8 = .ok (.aload_n 0, 1) := by decide +kernel
theorem dX1_stepsBetween_9 : decode cX1_stepsBetween 9 = .ok (.iload_n 2, 1) := by decide +kernel
theorem dX1_stepsBetween_10 : decode cX1_stepsBetween 10 = .ok (.invokevirtual 21, 3) := by decide +kernel
theorem dX1_stepsBetween_13 : decode cX1_stepsBetween 13 = .ok (.ifCond .ne 5, 3) := by decide +kernel
theorem dX1_stepsBetween_16 : decode cX1_stepsBetween 16 = .ok (.iconst (-1), 1) := by decide +kernel
theorem dX1_stepsBetween_17 : decode cX1_stepsBetween 17 = .ok (.ireturn, 1) := by decide +kernel
theorem dX1_stepsBetween_18 : decode cX1_stepsBetween 18 = .ok (.aload_n 0, 1) := by decide +kernel
theorem dX1_stepsBetween_19 : decode cX1_stepsBetween 19 = .ok (.getfield 18, 3) := by decide +kernel
theorem dX1_stepsBetween_22 : decode cX1_stepsBetween 22 = .ok (.iconst (-1), 1) := by decide +kernel
theorem dX1_stepsBetween_23 : decode cX1_stepsBetween 23 = .ok (.invokestatic 29, 3) := by decide +kernel
theorem dX1_stepsBetween_26 : decode cX1_stepsBetween 26 = .ok (.aload_n 0, 1) := by decide +kernel
theorem dX1_stepsBetween_27 : decode cX1_stepsBetween 27 = .ok (.getfield 18, 3) := by decide +kernel
theorem dX1_stepsBetween_30 : decode cX1_stepsBetween 30 = .ok (.iload_n 1, 1) := by decide +kernel
theorem dX1_stepsBetween_31 : decode cX1_stepsBetween 31 = .ok (.iconst 0, 1) := by decide +kernel
theorem dX1_stepsBetween_32 : decode cX1_stepsBetween 32 = .ok (.iastore, 1) := by decide +kernel
theorem dX1_stepsBetween_33 : decode cX1_stepsBetween 33 = .ok (.iconst 1, 1) := by decide +kernel
theorem dX1_stepsBetween_34 : decode cX1_stepsBetween 34 = .ok (.istore_n 3, 1) := by decide +kernel
theorem dX1_stepsBetween_35 : decode cX1_stepsBetween 35 = .ok (.iconst 0, 1) := by decide +kernel
theorem dX1_stepsBetween_36 : decode cX1_stepsBetween 36 = .ok (.istore 4, 2) := by decide +kernel
theorem dX1_stepsBetween_38 : decode cX1_stepsBetween 38 = .ok (.iload 4, 2) := by decide +kernel
theorem dX1_stepsBetween_40 : decode cX1_stepsBetween 40 = .ok (.sipush 140, 3) := by decide +kernel
theorem dX1_stepsBetween_43 : decode cX1_stepsBetween 43 = .ok (.if_icmp .ge 30, 3) := by decide +kernel
theorem dX1_stepsBetween_46 : decode cX1_stepsBetween 46 = .ok (.iload_n 3, 1) := by decide +kernel
theorem dX1_stepsBetween_47 : decode cX1_stepsBetween 47 = .ok (.ifCond .le 26, 3) := by decide +kernel
theorem dX1_stepsBetween_50 : decode cX1_stepsBetween 50 = .ok (.aload_n 0, 1) := by decide +kernel
theorem dX1_stepsBetween_51 : decode cX1_stepsBetween 51 = .ok (.getfield 18, 3) := by decide +kernel
theorem dX1_stepsBetween_54 : decode cX1_stepsBetween 54 = .ok (.iload_n 2, 1) := by decide +kernel
theorem dX1_stepsBetween_55 : decode cX1_stepsBetween 55 = .ok (.iaload, 1) := by decide +kernel
theorem dX1_stepsBetween_56 : decode cX1_stepsBetween 56 = .ok (.iconst (-1), 1) := by decide +kernel
theorem dX1_stepsBetween_57 : decode cX1_stepsBetween 57 = .ok (.if_icmp .ne 16, 3) := by decide +kernel
theorem dX1_stepsBetween_60 : decode cX1_stepsBetween 60 = .ok (.aload_n 0, 1) := by decide +kernel
theorem dX1_stepsBetween_61 : decode cX1_stepsBetween 61 = .ok (.iload 4, 2) := by decide +kernel
theorem dX1_stepsBetween_63 : decode cX1_stepsBetween 63 = .ok (.invokevirtual 35, 3) := by decide +kernel
theorem dX1_stepsBetween_66 : decode cX1_stepsBetween 66 = .ok (.istore_n 3, 1) := by decide +kernel
theorem dX1_stepsBetween_67 : decode cX1_stepsBetween 67 = .ok (.iinc 4 1, 3) := by decide +kernel
theorem dX1_stepsBetween_70 : decode cX1_stepsBetween 70 = .ok (.goto (-32), 3) := by decide +kernel
theorem dX1_stepsBetween_73 : decode cX1_stepsBetween 73 = .ok (.aload_n 0, 1) := by decide +kernel
theorem dX1_stepsBetween_74 : decode cX1_stepsBetween 74 = .ok (.getfield 18, 3) := by decide +kernel
theorem dX1_stepsBetween_77 : decode cX1_stepsBetween 77 = .ok (.iload_n 2, 1) := by decide +kernel
theorem dX1_stepsBetween_78 : decode cX1_stepsBetween 78 = .ok (.iaload, 1) := by decide +kernel
theorem dX1_stepsBetween_79 : decode cX1_stepsBetween 79 = .ok (.ireturn, 1) := by decide +kernel
theorem dX1_spread_0 : decode cX1_spread 0 = .ok (.iconst 0, 1) := by decide +kernel
theorem dX1_spread_1 : decode cX1_spread 1 = .ok (.istore_n 2, 1) := by decide +kernel
theorem dX1_spread_2 : decode cX1_spread 2 = .ok (.iconst 0, 1) := by decide +kernel
theorem dX1_spread_3 : decode cX1_spread 3 = .ok (.istore_n 3, 1) := by decide +kernel
theorem dX1_spread_4 : decode cX1_spread 4 = .ok (.iload_n 3, 1) := by decide +kernel
theorem dX1_spread_5 : decode cX1_spread 5 = .ok (.sipush 140, 3) := by decide +kernel
theorem dX1_spread_8 : decode cX1_spread 8 = .ok (.if_icmp .ge 95, 3) := by decide +kernel
theorem dX1_spread_11 : decode cX1_spread 11 = .ok (.aload_n 0, 1) := by decide +kernel
theorem dX1_spread_12 : decode cX1_spread 12 = .ok (.getfield 18, 3) := by decide +kernel
theorem dX1_spread_15 : decode cX1_spread 15 = .ok (.iload_n 3, 1) := by decide +kernel
theorem dX1_spread_16 : decode cX1_spread 16 = .ok (.iaload, 1) := by decide +kernel
theorem dX1_spread_17 : decode cX1_spread 17 = .ok (.iload_n 1, 1) := by decide +kernel
theorem dX1_spread_18 : decode cX1_spread 18 = .ok (.if_icmp .ne 79, 3) := by decide +kernel
theorem dX1_spread_21 : decode cX1_spread 21 = .ok (.iload_n 3, 1) := by decide +kernel
theorem dX1_spread_22 : decode cX1_spread 22 = .ok (.bipush 14, 2) := by decide +kernel
theorem dX1_spread_24 : decode cX1_spread 24 = .ok (.irem, 1) := by decide +kernel
theorem dX1_spread_25 : decode cX1_spread 25 = .ok (.istore 4, 2) := by decide +kernel
theorem dX1_spread_27 : decode cX1_spread 27 = .ok (.iload_n 3, 1) := by decide +kernel
theorem dX1_spread_28 : decode cX1_spread 28 = .ok (.bipush 14, 2) := by decide +kernel
theorem dX1_spread_30 : decode cX1_spread 30 = .ok (.idiv, 1) := by decide +kernel
theorem dX1_spread_31 : decode cX1_spread 31 = .ok (.istore 5, 2) := by decide +kernel
theorem dX1_spread_33 : decode cX1_spread 33 = .ok (.iload_n 2, 1) := by decide +kernel
theorem dX1_spread_34 : decode cX1_spread 34 = .ok (.aload_n 0, 1) := by decide +kernel
theorem dX1_spread_35 : decode cX1_spread 35 = .ok (.iload 4, 2) := by decide +kernel
theorem dX1_spread_37 : decode cX1_spread 37 = .ok (.iconst 1, 1) := by decide +kernel
theorem dX1_spread_38 : decode cX1_spread 38 = .ok (.isub, 1) := by decide +kernel
theorem dX1_spread_39 : decode cX1_spread 39 = .ok (.iload 5, 2) := by decide +kernel
theorem dX1_spread_41 : decode cX1_spread 41 = .ok (.iload_n 1, 1) := by decide +kernel
theorem dX1_spread_42 : decode cX1_spread 42 = .ok (.iconst 1, 1) := by decide +kernel
theorem dX1_spread_43 : decode cX1_spread 43 = .ok (.iadd, 1) := by decide +kernel
theorem dX1_spread_44 : decode cX1_spread 44 = .ok (.invokevirtual 38, 3) := by decide +kernel
theorem dX1_spread_47 : decode cX1_spread 47 = .ok (.iadd, 1) := by decide +kernel
theorem dX1_spread_48 : decode cX1_spread 48 = .ok (.istore_n 2, 1) := by decide +kernel
theorem dX1_spread_49 : decode cX1_spread 49 = .ok (.iload_n 2, 1) := by decide +kernel
theorem dX1_spread_50 : decode cX1_spread 50 = .ok (.aload_n 0, 1) := by decide +kernel
theorem dX1_spread_51 : decode cX1_spread 51 = .ok (.iload 4, 2) := by decide +kernel
theorem dX1_spread_53 : decode cX1_spread 53 = .ok (.iconst 1, 1) := by decide +kernel
theorem dX1_spread_54 : decode cX1_spread 54 = .ok (.iadd, 1) := by decide +kernel
theorem dX1_spread_55 : decode cX1_spread 55 = .ok (.iload 5, 2) := by decide +kernel
theorem dX1_spread_57 : decode cX1_spread 57 = .ok (.iload_n 1, 1) := by decide +kernel
theorem dX1_spread_58 : decode cX1_spread 58 = .ok (.iconst 1, 1) := by decide +kernel
theorem dX1_spread_59 : decode cX1_spread 59 = .ok (.iadd, 1) := by decide +kernel
theorem dX1_spread_60 : decode cX1_spread 60 = .ok (.invokevirtual 38, 3) := by decide +kernel
theorem dX1_spread_63 : decode cX1_spread 63 = .ok (.iadd, 1) := by decide +kernel
theorem dX1_spread_64 : decode cX1_spread 64 = .ok (.istore_n 2, 1) := by decide +kernel
theorem dX1_spread_65 : decode cX1_spread 65 = .ok (.iload_n 2, 1) := by decide +kernel
theorem dX1_spread_66 : decode cX1_spread 66 = .ok (.aload_n 0, 1) := by decide +kernel
theorem dX1_spread_67 : decode cX1_spread 67 = .ok (.iload 4, 2) := by decide +kernel
theorem dX1_spread_69 : decode cX1_spread 69 = .ok (.iload 5, 2) := by decide +kernel
theorem dX1_spread_71 : decode cX1_spread 71 = .ok (.iconst 1, 1) := by decide +kernel
theorem dX1_spread_72 : decode cX1_spread 72 = .ok (.isub, 1) := by decide +kernel
theorem dX1_spread_73 : decode cX1_spread 73 = .ok (.iload_n 1, 1) := by decide +kernel
theorem dX1_spread_74 : decode cX1_spread 74 = .ok (.iconst 1, 1) := by decide +kernel
theorem dX1_spread_75 : decode cX1_spread 75 = .ok (.iadd, 1) := by decide +kernel
theorem dX1_spread_76 : decode cX1_spread 76 = .ok (.invokevirtual 38, 3) := by decide +kernel
theorem dX1_spread_79 : decode cX1_spread 79 = .ok (.iadd, 1) := by decide +kernel
theorem dX1_spread_80 : decode cX1_spread 80 = .ok (.istore_n 2, 1) := by decide +kernel
theorem dX1_spread_81 : decode cX1_spread 81 = .ok (.iload_n 2, 1) := by decide +kernel
theorem dX1_spread_82 : decode cX1_spread 82 = .ok (.aload_n 0, 1) := by decide +kernel
theorem dX1_spread_83 : decode cX1_spread 83 = .ok (.iload 4, 2) := by decide +kernel
theorem dX1_spread_85 : decode cX1_spread 85 = .ok (.iload 5, 2) := by decide +kernel
theorem dX1_spread_87 : decode cX1_spread 87 = .ok (.iconst 1, 1) := by decide +kernel
theorem dX1_spread_88 : decode cX1_spread 88 = .ok (.iadd, 1) := by decide +kernel
theorem dX1_spread_89 : decode cX1_spread 89 = .ok (.iload_n 1, 1) := by decide +kernel
theorem dX1_spread_90 : decode cX1_spread 90 = .ok (.iconst 1, 1) := by decide +kernel
theorem dX1_spread_91 : decode cX1_spread 91 = .ok (.iadd, 1) := by decide +kernel
theorem dX1_spread_92 : decode cX1_spread 92 = .ok (.invokevirtual 38, 3) := by decide +kernel
theorem dX1_spread_95 : decode cX1_spread 95 = .ok (.iadd, 1) := by decide +kernel
theorem dX1_spread_96 : decode cX1_spread 96 = .ok (.istore_n 2, 1) := by decide +kernel
theorem dX1_spread_97 : decode cX1_spread 97 = .ok (.iinc 3 1, 3) := by decide +kernel
theorem dX1_spread_100 : decode cX1_spread 100 = .ok (.goto (-96), 3) := by decide +kernel
theorem dX1_spread_103 : decode cX1_spread 103 = .ok (.iload_n 2, 1) := by decide +kernel
theorem dX1_spread_104 : decode cX1_spread 104 = .ok (.ireturn, 1) := by decide +kernel
theorem dX1_enter_0 : decode cX1_enter 0 = .ok (.iload_n 1, 1) := by decide +kernel
theorem dX1_enter_1 : decode cX1_enter 1 = .ok (.iload_n 2, 1) := by decide +kernel
theorem dX1_enter_2 : decode cX1_enter 2 = .ok (.invokestatic 42, 3) := by decide +kernel
theorem dX1_enter_5 : decode cX1_enter 5 = .ok (.ifCond .ne 5, 3) := by decide +kernel
theorem dX1_enter_8 : decode cX1_enter 8 = .ok (.iconst 0, 1) := by decide +kernel
theorem dX1_enter_9 : decode cX1_enter 9 = .ok (.ireturn, 1) := by decide +kernel
theorem dX1_enter_10 : decode cX1_enter 10 = .ok (.iload_n 1, 1) := by decide +kernel
theorem dX1_enter_11 : decode cX1_enter 11 = .ok (.iload_n 2, 1) := by decide +kernel
theorem dX1_enter_12 : decode cX1_enter 12 = .ok (.invokestatic 46, 3) := by decide +kernel
theorem dX1_enter_15 : decode cX1_enter 15 = .ok (.istore 4, 2) := by decide +kernel
theorem dX1_enter_17 : decode cX1_enter 17 = .ok (.aload_n 0, 1) := by decide +kernel
theorem dX1_enter_18 : decode cX1_enter 18 = .ok (.iload 4, 2) := by decide +kernel
theorem dX1_enter_20 : decode cX1_enter 20 = .ok (.invokevirtual 21, 3) := by decide +kernel
theorem dX1_enter_23 : decode cX1_enter 23 = .ok (.ifCond .eq 14, 3) := by decide +kernel
theorem dX1_enter_26 : decode cX1_enter 26 = .ok (.aload_n 0, 1) := by decide +kernel
theorem dX1_enter_27 : decode cX1_enter 27 = .ok (.getfield 18, 3) := by decide +kernel
theorem dX1_enter_30 : decode cX1_enter 30 = .ok (.iload 4, 2) := by decide +kernel
theorem dX1_enter_32 : decode cX1_enter 32 = .ok (.iaload, 1) := by decide +kernel
theorem dX1_enter_33 : decode cX1_enter 33 = .ok (.iconst (-1), 1) := by decide +kernel
theorem dX1_enter_34 : decode cX1_enter 34 = .ok (.if_icmp .eq 5, 3) := by decide +kernel
theorem dX1_enter_37 : decode cX1_enter 37 = .ok (.iconst 0, 1) := by decide +kernel
theorem dX1_enter_38 : decode cX1_enter 38 = .ok (.ireturn, 1) := by decide +kernel
theorem dX1_enter_39 : decode cX1_enter 39 = .ok (.aload_n 0, 1) := by decide +kernel
theorem dX1_enter_40 : decode cX1_enter 40 = .ok (.getfield 18, 3) := by decide +kernel
theorem dX1_enter_43 : decode cX1_enter 43 = .ok (.iload 4, 2) := by decide +kernel
theorem dX1_enter_45 : decode cX1_enter 45 = .ok (.iload_n 3, 1) := by decide +kernel
theorem dX1_enter_46 : decode cX1_enter 46 = .ok (.iastore, 1) := by decide +kernel
theorem dX1_enter_47 : decode cX1_enter 47 = .ok (.iconst 1, 1) := by decide +kernel
theorem dX1_enter_48 : decode cX1_enter 48 = .ok (.ireturn, 1) := by decide +kernel
theorem dX2_init_0 : decode cX2_init 0 = .ok (.aload_n 0, 1) := by decide +kernel
theorem dX2_init_1 : decode cX2_init 1 = .ok (.invokespecial 3, 3) := by decide +kernel
theorem dX2_init_4 : decode cX2_init 4 = .ok (.aload_n 0, 1) := by decide +kernel
theorem dX2_init_5 : decode cX2_init 5 = .ok (.iload_n 1, 1) := by decide +kernel
theorem dX2_init_6 : decode cX2_init 6 = .ok (.putfield 9, 3) := by decide +kernel
theorem dX2_init_9 : decode cX2_init 9 = .ok (.aload_n 0, 1) := by decide +kernel
theorem dX2_init_10 : decode cX2_init 10 = .ok (.iload_n 2, 1) := by decide +kernel
theorem dX2_init_11 : decode cX2_init 11 = .ok (.putfield 15, 3) := by decide +kernel
theorem dX2_init_14 : decode cX2_init 14 = .ok (.aload_n 0, 1) := by decide +kernel
theorem dX2_init_15 : decode cX2_init 15 = .ok (.iload_n 3, 1) := by decide +kernel
theorem dX2_init_16 : decode cX2_init 16 = .ok (.putfield 18, 3) := by decide +kernel
theorem dX2_init_19 : decode cX2_init 19 = .ok (.aload_n 0, 1) := by decide +kernel
theorem dX2_init_20 : decode cX2_init 20 = .ok (.iconst 0, 1) := by decide +kernel
theorem dX2_init_21 : decode cX2_init 21 = .ok (.putfield 21, 3) := by decide +kernel
theorem dX2_init_24 : decode cX2_init 24 = .ok (.return_, 1) := by decide +kernel
theorem dX2_copyFrom_0 : decode cX2_copyFrom 0 = .ok (.aload_n 0, 1) := by decide +kernel
theorem dX2_copyFrom_1 : decode cX2_copyFrom 1 = .ok (.aload_n 1, 1) := by decide +kernel
theorem dX2_copyFrom_2 : decode cX2_copyFrom 2 = .ok (.getfield 9, 3) := by decide +kernel
theorem dX2_copyFrom_5 : decode cX2_copyFrom 5 = .ok (.putfield 9, 3) := by decide +kernel
theorem dX2_copyFrom_8 : decode cX2_copyFrom 8 = .ok (.aload_n 0, 1) := by decide +kernel
theorem dX2_copyFrom_9 : decode cX2_copyFrom 9 = .ok (.aload_n 1, 1) := by decide +kernel
theorem dX2_copyFrom_10 : decode cX2_copyFrom 10 = .ok (.getfield 15, 3) := by decide +kernel
theorem dX2_copyFrom_13 : decode cX2_copyFrom 13 = .ok (.putfield 15, 3) := by decide +kernel
theorem dX2_copyFrom_16 : decode cX2_copyFrom 16 = .ok (.aload_n 0, 1) := by decide +kernel
theorem dX2_copyFrom_17 : decode cX2_copyFrom 17 = .ok (.aload_n 1, 1) := by decide +kernel
theorem dX2_copyFrom_18 : decode cX2_copyFrom 18 = .ok (.getfield 18, 3) := by decide +kernel
theorem dX2_copyFrom_21 : decode cX2_copyFrom 21 = .ok (.putfield 18, 3) := by decide +kernel
theorem dX2_copyFrom_24 : decode cX2_copyFrom 24 = .ok (.aload_n 0, 1) := by decide +kernel
theorem dX2_copyFrom_25 : decode cX2_copyFrom 25 = .ok (.aload_n 1, 1) := by decide +kernel
theorem dX2_copyFrom_26 : decode cX2_copyFrom 26 = .ok (.getfield 21, 3) := by decide +kernel
theorem dX2_copyFrom_29 : decode cX2_copyFrom 29 = .ok (.putfield 21, 3) := by decide +kernel
theorem dX2_copyFrom_32 : decode cX2_copyFrom 32 = .ok (.aload_n 0, 1) := by decide +kernel
theorem dX2_copyFrom_33 : decode cX2_copyFrom 33 = .ok (.aload_n 1, 1) := by decide +kernel
theorem dX2_copyFrom_34 : decode cX2_copyFrom 34 = .ok (.getfield 24, 3) := by decide +kernel
theorem dX2_copyFrom_37 : decode cX2_copyFrom 37 = .ok (.putfield 24, 3) := by decide +kernel
theorem dX2_copyFrom_40 : decode cX2_copyFrom 40 = .ok (.aload_n 0, 1) := by decide +kernel
theorem dX2_copyFrom_41 : decode cX2_copyFrom 41 = .ok (.aload_n 1, 1) := by decide +kernel
theorem dX2_copyFrom_42 : decode cX2_copyFrom 42 = .ok (.getfield 27, 3) := by decide +kernel
theorem dX2_copyFrom_45 : decode cX2_copyFrom 45 = .ok (.putfield 27, 3) := by decide +kernel
theorem dX2_copyFrom_48 : decode cX2_copyFrom 48 = .ok (.aload_n 0, 1) := by decide +kernel
theorem dX2_copyFrom_49 : decode cX2_copyFrom 49 = .ok (.aload_n 1, 1) := by decide +kernel
theorem dX2_copyFrom_50 : decode cX2_copyFrom 50 = .ok (.getfield 30, 3) := by decide +kernel
theorem dX2_copyFrom_53 : decode cX2_copyFrom 53 = .ok (.putfield 30, 3) := by decide +kernel
theorem dX2_copyFrom_56 : decode cX2_copyFrom 56 = .ok (.return_, 1) := by decide +kernel
theorem dX2_catchFire_0 : decode cX2_catchFire 0 = .ok (.aload_n 0, 1) := by decide +kernel
theorem dX2_catchFire_1 : decode cX2_catchFire 1 = .ok (.iconst 1, 1) := by decide +kernel
theorem dX2_catchFire_2 : decode cX2_catchFire 2 = .ok (.putfield 21, 3) := by decide +kernel
theorem dX2_catchFire_5 : decode cX2_catchFire 5 = .ok (.aload_n 0, 1) := by decide +kernel
theorem dX2_catchFire_6 : decode cX2_catchFire 6 = .ok (.iload_n 1, 1) := by decide +kernel
theorem dX2_catchFire_7 : decode cX2_catchFire 7 = .ok (.putfield 24, 3) := by decide +kernel
theorem dX2_catchFire_10 : decode cX2_catchFire 10 = .ok (.return_, 1) := by decide +kernel
theorem dX2_takeWater_0 : decode cX2_takeWater 0 = .ok (.aload_n 0, 1) := by decide +kernel
theorem dX2_takeWater_1 : decode cX2_takeWater 1 = .ok (.dup, 1) := by decide +kernel
theorem dX2_takeWater_2 : decode cX2_takeWater 2 = .ok (.getfield 27, 3) := by decide +kernel
theorem dX2_takeWater_5 : decode cX2_takeWater 5 = .ok (.iload_n 1, 1) := by decide +kernel
theorem dX2_takeWater_6 : decode cX2_takeWater 6 = .ok (.iadd, 1) := by decide +kernel
theorem dX2_takeWater_7 : decode cX2_takeWater 7 = .ok (.putfield 27, 3) := by decide +kernel
theorem dX2_takeWater_10 : decode cX2_takeWater 10 = .ok (.aload_n 0, 1) := by decide +kernel
theorem dX2_takeWater_11 : decode cX2_takeWater 11 = .ok (.dup, 1) := by decide +kernel
theorem dX2_takeWater_12 : decode cX2_takeWater 12 = .ok (.getfield 30, 3) := by decide +kernel
theorem dX2_takeWater_15 : decode cX2_takeWater 15 = .ok (.iload_n 1, 1) := by decide +kernel
theorem dX2_takeWater_16 : decode cX2_takeWater 16 = .ok (.iadd, 1) := by decide +kernel
theorem dX2_takeWater_17 : decode cX2_takeWater 17 = .ok (.putfield 30, 3) := by decide +kernel
theorem dX2_takeWater_20 : decode cX2_takeWater 20 = .ok (.return_, 1) := by decide +kernel
theorem dX2_burnAMinute_0 : decode cX2_burnAMinute 0 = .ok (.aload_n 0, 1) := by decide +kernel
theorem dX2_burnAMinute_1 : decode cX2_burnAMinute 1 = .ok (.getfield 21, 3) := by decide +kernel
theorem dX2_burnAMinute_4 : decode cX2_burnAMinute 4 = .ok (.iconst 1, 1) := by decide +kernel
theorem dX2_burnAMinute_5 : decode cX2_burnAMinute 5 = .ok (.if_icmp .eq 4, 3) := by decide +kernel
theorem dX2_burnAMinute_8 : decode cX2_burnAMinute 8 = .ok (.return_, 1) := by decide +kernel
theorem dX2_burnAMinute_9 : decode cX2_burnAMinute 9 = .ok (.aload_n 0, 1) := by decide +kernel
theorem dX2_burnAMinute_10 : decode cX2_burnAMinute 10 = .ok (.bipush 99, 2) := by decide +kernel
theorem dX2_burnAMinute_12 : decode cX2_burnAMinute 12 = .ok (.aload_n 0, 1) := by decide +kernel
theorem dX2_burnAMinute_13 : decode cX2_burnAMinute 13 = .ok (.getfield 24, 3) := by decide +kernel
theorem dX2_burnAMinute_16 : decode cX2_burnAMinute 16 = .ok (.aload_n 0, 1) := by decide +kernel
theorem dX2_burnAMinute_17 : decode cX2_burnAMinute 17 = .ok (.getfield 15, 3) := by decide +kernel
theorem dX2_burnAMinute_20 : decode cX2_burnAMinute 20 = .ok (.iadd, 1) := by decide +kernel
theorem dX2_burnAMinute_21 : decode cX2_burnAMinute 21 = .ok (.aload_n 0, 1) := by decide +kernel
theorem dX2_burnAMinute_22 : decode cX2_burnAMinute 22 = .ok (.getfield 27, 3) := by decide +kernel
theorem dX2_burnAMinute_25 : decode cX2_burnAMinute 25 = .ok (.iconst 4, 1) := by decide +kernel
theorem dX2_burnAMinute_26 : decode cX2_burnAMinute 26 = .ok (.idiv, 1) := by decide +kernel
theorem dX2_burnAMinute_27 : decode cX2_burnAMinute 27 = .ok (.isub, 1) := by decide +kernel
theorem dX2_burnAMinute_28 : decode cX2_burnAMinute 28 = .ok (.invokestatic 33, 3) := by decide +kernel
theorem dX2_burnAMinute_31 : decode cX2_burnAMinute 31 = .ok (.putfield 24, 3) := by decide +kernel
theorem dX2_burnAMinute_34 : decode cX2_burnAMinute 34 = .ok (.aload_n 0, 1) := by decide +kernel
theorem dX2_burnAMinute_35 : decode cX2_burnAMinute 35 = .ok (.getfield 24, 3) := by decide +kernel
theorem dX2_burnAMinute_38 : decode cX2_burnAMinute 38 = .ok (.ifCond .gt 9, 3) := by decide +kernel
theorem dX2_burnAMinute_41 : decode cX2_burnAMinute 41 = .ok (.aload_n 0, 1) := by decide +kernel
theorem dX2_burnAMinute_42 : decode cX2_burnAMinute 42 = .ok (.iconst 2, 1) := by decide +kernel
theorem dX2_burnAMinute_43 : decode cX2_burnAMinute 43 = .ok (.invokevirtual 39, 3) := by decide +kernel
theorem dX2_burnAMinute_46 : decode cX2_burnAMinute 46 = .ok (.return_, 1) := by decide +kernel
theorem dX2_burnAMinute_47 : decode cX2_burnAMinute 47 = .ok (.aload_n 0, 1) := by decide +kernel
theorem dX2_burnAMinute_48 : decode cX2_burnAMinute 48 = .ok (.iconst 0, 1) := by decide +kernel
theorem dX2_burnAMinute_49 : decode cX2_burnAMinute 49 = .ok (.aload_n 0, 1) := by decide +kernel
theorem dX2_burnAMinute_50 : decode cX2_burnAMinute 50 = .ok (.getfield 18, 3) := by decide +kernel
theorem dX2_burnAMinute_53 : decode cX2_burnAMinute 53 = .ok (.iconst 1, 1) := by decide +kernel
theorem dX2_burnAMinute_54 : decode cX2_burnAMinute 54 = .ok (.isub, 1) := by decide +kernel
theorem dX2_burnAMinute_55 : decode cX2_burnAMinute 55 = .ok (.aload_n 0, 1) := by decide +kernel
theorem dX2_burnAMinute_56 : decode cX2_burnAMinute 56 = .ok (.getfield 24, 3) := by decide +kernel
theorem dX2_burnAMinute_59 : decode cX2_burnAMinute 59 = .ok (.bipush 25, 2) := by decide +kernel
theorem dX2_burnAMinute_61 : decode cX2_burnAMinute 61 = .ok (.idiv, 1) := by decide +kernel
theorem dX2_burnAMinute_62 : decode cX2_burnAMinute 62 = .ok (.isub, 1) := by decide +kernel
theorem dX2_burnAMinute_63 : decode cX2_burnAMinute 63 = .ok (.invokestatic 43, 3) := by decide +kernel
theorem dX2_burnAMinute_66 : decode cX2_burnAMinute 66 = .ok (.putfield 18, 3) := by decide +kernel
theorem dX2_burnAMinute_69 : decode cX2_burnAMinute 69 = .ok (.aload_n 0, 1) := by decide +kernel
theorem dX2_burnAMinute_70 : decode cX2_burnAMinute 70 = .ok (.getfield 18, 3) := by decide +kernel
theorem dX2_burnAMinute_73 : decode cX2_burnAMinute 73 = .ok (.ifCond .ne 8, 3) := by decide +kernel
theorem dX2_burnAMinute_76 : decode cX2_burnAMinute 76 = .ok (.aload_n 0, 1) := by decide +kernel
theorem dX2_burnAMinute_77 : decode cX2_burnAMinute 77 = .ok (.iconst 3, 1) := by decide +kernel
theorem dX2_burnAMinute_78 : decode cX2_burnAMinute 78 = .ok (.invokevirtual 39, 3) := by decide +kernel
theorem dX2_burnAMinute_81 : decode cX2_burnAMinute 81 = .ok (.return_, 1) := by decide +kernel
theorem dX2_endFire_0 : decode cX2_endFire 0 = .ok (.aload_n 0, 1) := by decide +kernel
theorem dX2_endFire_1 : decode cX2_endFire 1 = .ok (.iload_n 1, 1) := by decide +kernel
theorem dX2_endFire_2 : decode cX2_endFire 2 = .ok (.putfield 21, 3) := by decide +kernel
theorem dX2_endFire_5 : decode cX2_endFire 5 = .ok (.aload_n 0, 1) := by decide +kernel
theorem dX2_endFire_6 : decode cX2_endFire 6 = .ok (.iconst 0, 1) := by decide +kernel
theorem dX2_endFire_7 : decode cX2_endFire 7 = .ok (.putfield 24, 3) := by decide +kernel
theorem dX2_endFire_10 : decode cX2_endFire 10 = .ok (.return_, 1) := by decide +kernel
theorem dX2_tell_0 : decode cX2_tell 0 = .ok (.iload_n 1, 1) := by decide +kernel
theorem dX2_tell_1 : decode cX2_tell 1 = .ok (.tableswitch 69 0 5 #[39, 44, 49, 54, 59, 64], 39) := by decide +kernel
theorem dX2_tell_40 : decode cX2_tell 40 = .ok (.aload_n 0, 1) := by decide +kernel
theorem dX2_tell_41 : decode cX2_tell 41 = .ok (.getfield 9, 3) := by decide +kernel
theorem dX2_tell_44 : decode cX2_tell 44 = .ok (.ireturn, 1) := by decide +kernel
theorem dX2_tell_45 : decode cX2_tell 45 = .ok (.aload_n 0, 1) := by decide +kernel
theorem dX2_tell_46 : decode cX2_tell 46 = .ok (.getfield 15, 3) := by decide +kernel
theorem dX2_tell_49 : decode cX2_tell 49 = .ok (.ireturn, 1) := by decide +kernel
theorem dX2_tell_50 : decode cX2_tell 50 = .ok (.aload_n 0, 1) := by decide +kernel
theorem dX2_tell_51 : decode cX2_tell 51 = .ok (.getfield 18, 3) := by decide +kernel
theorem dX2_tell_54 : decode cX2_tell 54 = .ok (.ireturn, 1) := by decide +kernel
theorem dX2_tell_55 : decode cX2_tell 55 = .ok (.aload_n 0, 1) := by decide +kernel
theorem dX2_tell_56 : decode cX2_tell 56 = .ok (.getfield 21, 3) := by decide +kernel
theorem dX2_tell_59 : decode cX2_tell 59 = .ok (.ireturn, 1) := by decide +kernel
theorem dX2_tell_60 : decode cX2_tell 60 = .ok (.aload_n 0, 1) := by decide +kernel
theorem dX2_tell_61 : decode cX2_tell 61 = .ok (.getfield 24, 3) := by decide +kernel
theorem dX2_tell_64 : decode cX2_tell 64 = .ok (.ireturn, 1) := by decide +kernel
theorem dX2_tell_65 : decode cX2_tell 65 = .ok (.aload_n 0, 1) := by decide +kernel
theorem dX2_tell_66 : decode cX2_tell 66 = .ok (.getfield 27, 3) := by decide +kernel
theorem dX2_tell_69 : decode cX2_tell 69 = .ok (.ireturn, 1) := by decide +kernel
theorem dX2_tell_70 : decode cX2_tell 70 = .ok (.aload_n 0, 1) := by decide +kernel
theorem dX2_tell_71 : decode cX2_tell 71 = .ok (.getfield 30, 3) := by decide +kernel
theorem dX2_tell_74 : decode cX2_tell 74 = .ok (.ireturn, 1) := by decide +kernel
theorem dX3_init_0 : decode cX3_init 0 = .ok (.aload_n 0, 1) := by decide +kernel
theorem dX3_init_1 : decode cX3_init 1 = .ok (.invokespecial 1, 3) := by decide +kernel
theorem dX3_init_4 : decode cX3_init 4 = .ok (.aload_n 0, 1) := by decide +kernel
theorem dX3_init_5 : decode cX3_init 5 = .ok (.iload_n 1, 1) := by decide +kernel
theorem dX3_init_6 : decode cX3_init 6 = .ok (.putfield 7, 3) := by decide +kernel
theorem dX3_init_9 : decode cX3_init 9 = .ok (.aload_n 0, 1) := by decide +kernel
theorem dX3_init_10 : decode cX3_init 10 = .ok (.iload_n 2, 1) := by decide +kernel
theorem dX3_init_11 : decode cX3_init 11 = .ok (.putfield 13, 3) := by decide +kernel
theorem dX3_init_14 : decode cX3_init 14 = .ok (.return_, 1) := by decide +kernel
theorem dX3_copyFrom_0 : decode cX3_copyFrom 0 = .ok (.aload_n 0, 1) := by decide +kernel
theorem dX3_copyFrom_1 : decode cX3_copyFrom 1 = .ok (.aload_n 1, 1) := by decide +kernel
theorem dX3_copyFrom_2 : decode cX3_copyFrom 2 = .ok (.getfield 7, 3) := by decide +kernel
theorem dX3_copyFrom_5 : decode cX3_copyFrom 5 = .ok (.putfield 7, 3) := by decide +kernel
theorem dX3_copyFrom_8 : decode cX3_copyFrom 8 = .ok (.aload_n 0, 1) := by decide +kernel
theorem dX3_copyFrom_9 : decode cX3_copyFrom 9 = .ok (.aload_n 1, 1) := by decide +kernel
theorem dX3_copyFrom_10 : decode cX3_copyFrom 10 = .ok (.getfield 13, 3) := by decide +kernel
theorem dX3_copyFrom_13 : decode cX3_copyFrom 13 = .ok (.putfield 13, 3) := by decide +kernel
theorem dX3_copyFrom_16 : decode cX3_copyFrom 16 = .ok (.return_, 1) := by decide +kernel
theorem dX3_giveUpTo_0 : decode cX3_giveUpTo 0 = .ok (.iconst 0, 1) := by decide +kernel
theorem dX3_giveUpTo_1 : decode cX3_giveUpTo 1 = .ok (.iload_n 1, 1) := by decide +kernel
theorem dX3_giveUpTo_2 : decode cX3_giveUpTo 2 = .ok (.aload_n 0, 1) := by decide +kernel
theorem dX3_giveUpTo_3 : decode cX3_giveUpTo 3 = .ok (.getfield 13, 3) := by decide +kernel
theorem dX3_giveUpTo_6 : decode cX3_giveUpTo 6 = .ok (.invokestatic 16, 3) := by decide +kernel
theorem dX3_giveUpTo_9 : decode cX3_giveUpTo 9 = .ok (.invokestatic 22, 3) := by decide +kernel
theorem dX3_giveUpTo_12 : decode cX3_giveUpTo 12 = .ok (.istore_n 2, 1) := by decide +kernel
theorem dX3_giveUpTo_13 : decode cX3_giveUpTo 13 = .ok (.aload_n 0, 1) := by decide +kernel
theorem dX3_giveUpTo_14 : decode cX3_giveUpTo 14 = .ok (.dup, 1) := by decide +kernel
theorem dX3_giveUpTo_15 : decode cX3_giveUpTo 15 = .ok (.getfield 13, 3) := by decide +kernel
theorem dX3_giveUpTo_18 : decode cX3_giveUpTo 18 = .ok (.iload_n 2, 1) := by decide +kernel
theorem dX3_giveUpTo_19 : decode cX3_giveUpTo 19 = .ok (.isub, 1) := by decide +kernel
theorem dX3_giveUpTo_20 : decode cX3_giveUpTo 20 = .ok (.putfield 13, 3) := by decide +kernel
theorem dX3_giveUpTo_23 : decode cX3_giveUpTo 23 = .ok (.iload_n 2, 1) := by decide +kernel
theorem dX3_giveUpTo_24 : decode cX3_giveUpTo 24 = .ok (.ireturn, 1) := by decide +kernel
theorem dX4_init_0 : decode cX4_init 0 = .ok (.aload_n 0, 1) := by decide +kernel
theorem dX4_init_1 : decode cX4_init 1 = .ok (.invokespecial 3, 3) := by decide +kernel
theorem dX4_init_4 : decode cX4_init 4 = .ok (.aload_n 0, 1) := by decide +kernel
theorem dX4_init_5 : decode cX4_init 5 = .ok (.new 9, 3) := by decide +kernel
theorem dX4_init_8 : decode cX4_init 8 = .ok (.dup, 1) := by decide +kernel
theorem dX4_init_9 : decode cX4_init 9 = .ok (.invokespecial 11, 3) := by decide +kernel
theorem dX4_init_12 : decode cX4_init 12 = .ok (.putfield 12, 3) := by decide +kernel
theorem dX4_init_15 : decode cX4_init 15 = .ok (.aload_n 0, 1) := by decide +kernel
theorem dX4_init_16 : decode cX4_init 16 = .ok (.new 9, 3) := by decide +kernel
theorem dX4_init_19 : decode cX4_init 19 = .ok (.dup, 1) := by decide +kernel
theorem dX4_init_20 : decode cX4_init 20 = .ok (.invokespecial 11, 3) := by decide +kernel
theorem dX4_init_23 : decode cX4_init 23 = .ok (.putfield 18, 3) := by decide +kernel
theorem dX4_init_26 : decode cX4_init 26 = .ok (.aload_n 0, 1) := by decide +kernel
theorem dX4_init_27 : decode cX4_init 27 = .ok (.new 9, 3) := by decide +kernel
theorem dX4_init_30 : decode cX4_init 30 = .ok (.dup, 1) := by decide +kernel
theorem dX4_init_31 : decode cX4_init 31 = .ok (.invokespecial 11, 3) := by decide +kernel
theorem dX4_init_34 : decode cX4_init 34 = .ok (.putfield 21, 3) := by decide +kernel
theorem dX4_init_37 : decode cX4_init 37 = .ok (.return_, 1) := by decide +kernel
theorem dX4_copyFrom_0 : decode cX4_copyFrom 0 = .ok (.aload_n 0, 1) := by decide +kernel
theorem dX4_copyFrom_1 : decode cX4_copyFrom 1 = .ok (.aload_n 1, 1) := by decide +kernel
theorem dX4_copyFrom_2 : decode cX4_copyFrom 2 = .ok (.getfield 24, 3) := by decide +kernel
theorem dX4_copyFrom_5 : decode cX4_copyFrom 5 = .ok (.putfield 24, 3) := by decide +kernel
theorem dX4_copyFrom_8 : decode cX4_copyFrom 8 = .ok (.iconst 0, 1) := by decide +kernel
theorem dX4_copyFrom_9 : decode cX4_copyFrom 9 = .ok (.istore_n 2, 1) := by decide +kernel
theorem dX4_copyFrom_10 : decode cX4_copyFrom 10 = .ok (.iload_n 2, 1) := by decide +kernel
theorem dX4_copyFrom_11 : decode cX4_copyFrom 11 = .ok (.aload_n 1, 1) := by decide +kernel
theorem dX4_copyFrom_12 : decode cX4_copyFrom 12 = .ok (.getfield 12, 3) := by decide +kernel
theorem dX4_copyFrom_15 : decode cX4_copyFrom 15 = .ok (.invokevirtual 28, 3) := by decide +kernel
theorem dX4_copyFrom_18 : decode cX4_copyFrom 18 = .ok (.if_icmp .ge 63, 3) := by decide +kernel
theorem dX4_copyFrom_21 : decode cX4_copyFrom 21 = .ok (.iload_n 2, 1) := by decide +kernel
theorem dX4_copyFrom_22 : decode cX4_copyFrom 22 = .ok (.aload_n 0, 1) := by decide +kernel
theorem dX4_copyFrom_23 : decode cX4_copyFrom 23 = .ok (.getfield 12, 3) := by decide +kernel
theorem dX4_copyFrom_26 : decode cX4_copyFrom 26 = .ok (.invokevirtual 28, 3) := by decide +kernel
theorem dX4_copyFrom_29 : decode cX4_copyFrom 29 = .ok (.if_icmp .lt 21, 3) := by decide +kernel
theorem dX4_copyFrom_32 : decode cX4_copyFrom 32 = .ok (.aload_n 0, 1) := by decide +kernel
theorem dX4_copyFrom_33 : decode cX4_copyFrom 33 = .ok (.getfield 12, 3) := by decide +kernel
theorem dX4_copyFrom_36 : decode cX4_copyFrom 36 = .ok (.new 32, 3) := by decide +kernel
theorem dX4_copyFrom_39 : decode cX4_copyFrom 39 = .ok (.dup, 1) := by decide +kernel
theorem dX4_copyFrom_40 : decode cX4_copyFrom 40 = .ok (.iconst 0, 1) := by decide +kernel
theorem dX4_copyFrom_41 : decode cX4_copyFrom 41 = .ok (.iconst 0, 1) := by decide +kernel
theorem dX4_copyFrom_42 : decode cX4_copyFrom 42 = .ok (.iconst 0, 1) := by decide +kernel
theorem dX4_copyFrom_43 : decode cX4_copyFrom 43 = .ok (.invokespecial 34, 3) := by decide +kernel
theorem dX4_copyFrom_46 : decode cX4_copyFrom 46 = .ok (.invokevirtual 37, 3) := by decide +kernel
theorem dX4_copyFrom_49 : decode cX4_copyFrom 49 = .ok (.pop, 1) := by decide +kernel
theorem dX4_copyFrom_50 : decode cX4_copyFrom 50 = .ok (.aload_n 0, 1) := by decide +kernel
theorem dX4_copyFrom_51 : decode cX4_copyFrom 51 = .ok (.getfield 12, 3) := by decide +kernel
theorem dX4_copyFrom_54 : decode cX4_copyFrom 54 = .ok (.iload_n 2, 1) := by decide +kernel
theorem dX4_copyFrom_55 : decode cX4_copyFrom 55 = .ok (.invokevirtual 41, 3) := by decide +kernel
theorem dX4_copyFrom_58 : decode cX4_copyFrom 58 = .ok (.checkcast 32, 3) := by decide +kernel
theorem dX4_copyFrom_61 : decode cX4_copyFrom 61 = .ok (.aload_n 1, 1) := by decide +kernel
theorem dX4_copyFrom_62 : decode cX4_copyFrom 62 = .ok (.getfield 12, 3) := by decide +kernel
theorem dX4_copyFrom_65 : decode cX4_copyFrom 65 = .ok (.iload_n 2, 1) := by decide +kernel
theorem dX4_copyFrom_66 : decode cX4_copyFrom 66 = .ok (.invokevirtual 41, 3) := by decide +kernel
theorem dX4_copyFrom_69 : decode cX4_copyFrom 69 = .ok (.checkcast 32, 3) := by decide +kernel
theorem dX4_copyFrom_72 : decode cX4_copyFrom 72 = .ok (.invokevirtual 45, 3) := by decide +kernel
theorem dX4_copyFrom_75 : decode cX4_copyFrom 75 = .ok (.iinc 2 1, 3) := by decide +kernel
theorem dX4_copyFrom_78 : decode cX4_copyFrom 78 = .ok (.goto (-68), 3) := by decide +kernel
theorem dX4_copyFrom_81 : decode cX4_copyFrom 81 = .ok (.iconst 0, 1) := by decide +kernel
theorem dX4_copyFrom_82 : decode cX4_copyFrom 82 = .ok (.istore_n 2, 1) := by decide +kernel
theorem dX4_copyFrom_83 : decode cX4_copyFrom 83 = .ok (.iload_n 2, 1) := by decide +kernel
theorem dX4_copyFrom_84 : decode cX4_copyFrom 84 = .ok (.aload_n 1, 1) := by decide +kernel
theorem dX4_copyFrom_85 : decode cX4_copyFrom 85 = .ok (.getfield 18, 3) := by decide +kernel
theorem dX4_copyFrom_88 : decode cX4_copyFrom 88 = .ok (.invokevirtual 28, 3) := by decide +kernel
theorem dX4_copyFrom_91 : decode cX4_copyFrom 91 = .ok (.if_icmp .ge 62, 3) := by decide +kernel
theorem dX4_copyFrom_94 : decode cX4_copyFrom 94 = .ok (.iload_n 2, 1) := by decide +kernel
theorem dX4_copyFrom_95 : decode cX4_copyFrom 95 = .ok (.aload_n 0, 1) := by decide +kernel
theorem dX4_copyFrom_96 : decode cX4_copyFrom 96 = .ok (.getfield 18, 3) := by decide +kernel
theorem dX4_copyFrom_99 : decode cX4_copyFrom 99 = .ok (.invokevirtual 28, 3) := by decide +kernel
theorem dX4_copyFrom_102 : decode cX4_copyFrom 102 = .ok (.if_icmp .lt 20, 3) := by decide +kernel
theorem dX4_copyFrom_105 : decode cX4_copyFrom 105 = .ok (.aload_n 0, 1) := by decide +kernel
theorem dX4_copyFrom_106 : decode cX4_copyFrom 106 = .ok (.getfield 18, 3) := by decide +kernel
theorem dX4_copyFrom_109 : decode cX4_copyFrom 109 = .ok (.new 49, 3) := by decide +kernel
theorem dX4_copyFrom_112 : decode cX4_copyFrom 112 = .ok (.dup, 1) := by decide +kernel
theorem dX4_copyFrom_113 : decode cX4_copyFrom 113 = .ok (.iconst 0, 1) := by decide +kernel
theorem dX4_copyFrom_114 : decode cX4_copyFrom 114 = .ok (.iconst 0, 1) := by decide +kernel
theorem dX4_copyFrom_115 : decode cX4_copyFrom 115 = .ok (.invokespecial 51, 3) := by decide +kernel
theorem dX4_copyFrom_118 : decode cX4_copyFrom 118 = .ok (.invokevirtual 37, 3) := by decide +kernel
theorem dX4_copyFrom_121 : decode cX4_copyFrom 121 = .ok (.pop, 1) := by decide +kernel
theorem dX4_copyFrom_122 : decode cX4_copyFrom 122 = .ok (.aload_n 0, 1) := by decide +kernel
theorem dX4_copyFrom_123 : decode cX4_copyFrom 123 = .ok (.getfield 18, 3) := by decide +kernel
theorem dX4_copyFrom_126 : decode cX4_copyFrom 126 = .ok (.iload_n 2, 1) := by decide +kernel
theorem dX4_copyFrom_127 : decode cX4_copyFrom 127 = .ok (.invokevirtual 41, 3) := by decide +kernel
theorem dX4_copyFrom_130 : decode cX4_copyFrom 130 = .ok (.checkcast 49, 3) := by decide +kernel
theorem dX4_copyFrom_133 : decode cX4_copyFrom 133 = .ok (.aload_n 1, 1) := by decide +kernel
theorem dX4_copyFrom_134 : decode cX4_copyFrom 134 = .ok (.getfield 18, 3) := by decide +kernel
theorem dX4_copyFrom_137 : decode cX4_copyFrom 137 = .ok (.iload_n 2, 1) := by decide +kernel
theorem dX4_copyFrom_138 : decode cX4_copyFrom 138 = .ok (.invokevirtual 41, 3) := by decide +kernel
theorem dX4_copyFrom_141 : decode cX4_copyFrom 141 = .ok (.checkcast 49, 3) := by decide +kernel
theorem dX4_copyFrom_144 : decode cX4_copyFrom 144 = .ok (.invokevirtual 54, 3) := by decide +kernel
theorem dX4_copyFrom_147 : decode cX4_copyFrom 147 = .ok (.iinc 2 1, 3) := by decide +kernel
theorem dX4_copyFrom_150 : decode cX4_copyFrom 150 = .ok (.goto (-67), 3) := by decide +kernel
theorem dX4_copyFrom_153 : decode cX4_copyFrom 153 = .ok (.iconst 0, 1) := by decide +kernel
theorem dX4_copyFrom_154 : decode cX4_copyFrom 154 = .ok (.istore_n 2, 1) := by decide +kernel
theorem dX4_copyFrom_155 : decode cX4_copyFrom 155 = .ok (.iload_n 2, 1) := by decide +kernel
theorem dX4_copyFrom_156 : decode cX4_copyFrom 156 = .ok (.aload_n 1, 1) := by decide +kernel
theorem dX4_copyFrom_157 : decode cX4_copyFrom 157 = .ok (.getfield 21, 3) := by decide +kernel
theorem dX4_copyFrom_160 : decode cX4_copyFrom 160 = .ok (.invokevirtual 28, 3) := by decide +kernel
theorem dX4_copyFrom_163 : decode cX4_copyFrom 163 = .ok (.if_icmp .ge 63, 3) := by decide +kernel
theorem dX4_copyFrom_166 : decode cX4_copyFrom 166 = .ok (.iload_n 2, 1) := by decide +kernel
theorem dX4_copyFrom_167 : decode cX4_copyFrom 167 = .ok (.aload_n 0, 1) := by decide +kernel
theorem dX4_copyFrom_168 : decode cX4_copyFrom 168 = .ok (.getfield 21, 3) := by decide +kernel
theorem dX4_copyFrom_171 : decode cX4_copyFrom 171 = .ok (.invokevirtual 28, 3) := by decide +kernel
theorem dX4_copyFrom_174 : decode cX4_copyFrom 174 = .ok (.if_icmp .lt 21, 3) := by decide +kernel
theorem dX4_copyFrom_177 : decode cX4_copyFrom 177 = .ok (.aload_n 0, 1) := by decide +kernel
theorem dX4_copyFrom_178 : decode cX4_copyFrom 178 = .ok (.getfield 21, 3) := by decide +kernel
theorem dX4_copyFrom_181 : decode cX4_copyFrom 181 = .ok (.new 57, 3) := by decide +kernel
theorem dX4_copyFrom_184 : decode cX4_copyFrom 184 = .ok (.dup, 1) := by decide +kernel
theorem dX4_copyFrom_185 : decode cX4_copyFrom 185 = .ok (.iconst 0, 1) := by decide +kernel
theorem dX4_copyFrom_186 : decode cX4_copyFrom 186 = .ok (.iconst 0, 1) := by decide +kernel
theorem dX4_copyFrom_187 : decode cX4_copyFrom 187 = .ok (.iconst 0, 1) := by decide +kernel
theorem dX4_copyFrom_188 : decode cX4_copyFrom 188 = .ok (.invokespecial 59, 3) := by decide +kernel
theorem dX4_copyFrom_191 : decode cX4_copyFrom 191 = .ok (.invokevirtual 37, 3) := by decide +kernel
theorem dX4_copyFrom_194 : decode cX4_copyFrom 194 = .ok (.pop, 1) := by decide +kernel
theorem dX4_copyFrom_195 : decode cX4_copyFrom 195 = .ok (.aload_n 0, 1) := by decide +kernel
theorem dX4_copyFrom_196 : decode cX4_copyFrom 196 = .ok (.getfield 21, 3) := by decide +kernel
theorem dX4_copyFrom_199 : decode cX4_copyFrom 199 = .ok (.iload_n 2, 1) := by decide +kernel
theorem dX4_copyFrom_200 : decode cX4_copyFrom 200 = .ok (.invokevirtual 41, 3) := by decide +kernel
theorem dX4_copyFrom_203 : decode cX4_copyFrom 203 = .ok (.checkcast 57, 3) := by decide +kernel
theorem dX4_copyFrom_206 : decode cX4_copyFrom 206 = .ok (.aload_n 1, 1) := by decide +kernel
theorem dX4_copyFrom_207 : decode cX4_copyFrom 207 = .ok (.getfield 21, 3) := by decide +kernel
theorem dX4_copyFrom_210 : decode cX4_copyFrom 210 = .ok (.iload_n 2, 1) := by decide +kernel
theorem dX4_copyFrom_211 : decode cX4_copyFrom 211 = .ok (.invokevirtual 41, 3) := by decide +kernel
theorem dX4_copyFrom_214 : decode cX4_copyFrom 214 = .ok (.checkcast 57, 3) := by decide +kernel
theorem dX4_copyFrom_217 : decode cX4_copyFrom 217 = .ok (.invokevirtual 60, 3) := by decide +kernel
theorem dX4_copyFrom_220 : decode cX4_copyFrom 220 = .ok (.iinc 2 1, 3) := by decide +kernel
theorem dX4_copyFrom_223 : decode cX4_copyFrom 223 = .ok (.goto (-68), 3) := by decide +kernel
theorem dX4_copyFrom_226 : decode cX4_copyFrom 226 = .ok (.return_, 1) := by decide +kernel
theorem dX4_tell_0 : decode cX4_tell 0 = .ok (.iload_n 1, 1) := by decide +kernel
theorem dX4_tell_1 : decode cX4_tell 1 = .ok (.tableswitch 109 0 8 #[51, 56, 64, 70, 76, 82, 90, 98, 103], 51) := by decide +kernel
theorem dX4_tell_52 : decode cX4_tell 52 = .ok (.aload_n 0, 1) := by decide +kernel
theorem dX4_tell_53 : decode cX4_tell 53 = .ok (.getfield 24, 3) := by decide +kernel
theorem dX4_tell_56 : decode cX4_tell 56 = .ok (.ireturn, 1) := by decide +kernel
theorem dX4_tell_57 : decode cX4_tell 57 = .ok (.aload_n 0, 1) := by decide +kernel
theorem dX4_tell_58 : decode cX4_tell 58 = .ok (.getfield 12, 3) := by decide +kernel
theorem dX4_tell_61 : decode cX4_tell 61 = .ok (.invokevirtual 28, 3) := by decide +kernel
theorem dX4_tell_64 : decode cX4_tell 64 = .ok (.ireturn, 1) := by decide +kernel
theorem dX4_tell_65 : decode cX4_tell 65 = .ok (.aload_n 0, 1) := by decide +kernel
theorem dX4_tell_66 : decode cX4_tell 66 = .ok (.iconst 1, 1) := by decide +kernel
theorem dX4_tell_67 : decode cX4_tell 67 = .ok (.invokevirtual 63, 3) := by decide +kernel
theorem dX4_tell_70 : decode cX4_tell 70 = .ok (.ireturn, 1) := by decide +kernel
theorem dX4_tell_71 : decode cX4_tell 71 = .ok (.aload_n 0, 1) := by decide +kernel
theorem dX4_tell_72 : decode cX4_tell 72 = .ok (.iconst 2, 1) := by decide +kernel
theorem dX4_tell_73 : decode cX4_tell 73 = .ok (.invokevirtual 63, 3) := by decide +kernel
theorem dX4_tell_76 : decode cX4_tell 76 = .ok (.ireturn, 1) := by decide +kernel
theorem dX4_tell_77 : decode cX4_tell 77 = .ok (.aload_n 0, 1) := by decide +kernel
theorem dX4_tell_78 : decode cX4_tell 78 = .ok (.iconst 3, 1) := by decide +kernel
theorem dX4_tell_79 : decode cX4_tell 79 = .ok (.invokevirtual 63, 3) := by decide +kernel
theorem dX4_tell_82 : decode cX4_tell 82 = .ok (.ireturn, 1) := by decide +kernel
theorem dX4_tell_83 : decode cX4_tell 83 = .ok (.aload_n 0, 1) := by decide +kernel
theorem dX4_tell_84 : decode cX4_tell 84 = .ok (.getfield 18, 3) := by decide +kernel
theorem dX4_tell_87 : decode cX4_tell 87 = .ok (.invokevirtual 28, 3) := by decide +kernel
theorem dX4_tell_90 : decode cX4_tell 90 = .ok (.ireturn, 1) := by decide +kernel
theorem dX4_tell_91 : decode cX4_tell 91 = .ok (.aload_n 0, 1) := by decide +kernel
theorem dX4_tell_92 : decode cX4_tell 92 = .ok (.getfield 21, 3) := by decide +kernel
theorem dX4_tell_95 : decode cX4_tell 95 = .ok (.invokevirtual 28, 3) := by decide +kernel
theorem dX4_tell_98 : decode cX4_tell 98 = .ok (.ireturn, 1) := by decide +kernel
theorem dX4_tell_99 : decode cX4_tell 99 = .ok (.aload_n 0, 1) := by decide +kernel
theorem dX4_tell_100 : decode cX4_tell 100 = .ok (.invokevirtual 67, 3) := by decide +kernel
theorem dX4_tell_103 : decode cX4_tell 103 = .ok (.ireturn, 1) := by decide +kernel
theorem dX4_tell_104 : decode cX4_tell 104 = .ok (.aload_n 0, 1) := by decide +kernel
theorem dX4_tell_105 : decode cX4_tell 105 = .ok (.iconst 4, 1) := by decide +kernel
theorem dX4_tell_106 : decode cX4_tell 106 = .ok (.invokevirtual 70, 3) := by decide +kernel
theorem dX4_tell_109 : decode cX4_tell 109 = .ok (.ireturn, 1) := by decide +kernel
theorem dX4_tell_110 : decode cX4_tell 110 = .ok (.aload_n 0, 1) := by decide +kernel
theorem dX4_tell_111 : decode cX4_tell 111 = .ok (.bipush 6, 2) := by decide +kernel
theorem dX4_tell_113 : decode cX4_tell 113 = .ok (.invokevirtual 70, 3) := by decide +kernel
theorem dX4_tell_116 : decode cX4_tell 116 = .ok (.ireturn, 1) := by decide +kernel
theorem dX4_tellEngine_0 : decode cX4_tellEngine 0 = .ok (.iload_n 2, 1) := by decide +kernel
theorem dX4_tellEngine_1 : decode cX4_tellEngine 1 = .ok (.tableswitch 97 0 8 #[51, 56, 61, 66, 71, 76, 81, 86, 92], 51) := by decide +kernel
theorem dX4_tellEngine_52 : decode cX4_tellEngine 52 = .ok (.aload_n 1, 1) := by decide +kernel
theorem dX4_tellEngine_53 : decode cX4_tellEngine 53 = .ok (.getfield 73, 3) := by decide +kernel
theorem dX4_tellEngine_56 : decode cX4_tellEngine 56 = .ok (.ireturn, 1) := by decide +kernel
theorem dX4_tellEngine_57 : decode cX4_tellEngine 57 = .ok (.aload_n 1, 1) := by decide +kernel
theorem dX4_tellEngine_58 : decode cX4_tellEngine 58 = .ok (.getfield 76, 3) := by decide +kernel
theorem dX4_tellEngine_61 : decode cX4_tellEngine 61 = .ok (.ireturn, 1) := by decide +kernel
theorem dX4_tellEngine_62 : decode cX4_tellEngine 62 = .ok (.aload_n 1, 1) := by decide +kernel
theorem dX4_tellEngine_63 : decode cX4_tellEngine 63 = .ok (.getfield 79, 3) := by decide +kernel
theorem dX4_tellEngine_66 : decode cX4_tellEngine 66 = .ok (.ireturn, 1) := by decide +kernel
theorem dX4_tellEngine_67 : decode cX4_tellEngine 67 = .ok (.aload_n 1, 1) := by decide +kernel
theorem dX4_tellEngine_68 : decode cX4_tellEngine 68 = .ok (.getfield 82, 3) := by decide +kernel
theorem dX4_tellEngine_71 : decode cX4_tellEngine 71 = .ok (.ireturn, 1) := by decide +kernel
theorem dX4_tellEngine_72 : decode cX4_tellEngine 72 = .ok (.aload_n 1, 1) := by decide +kernel
theorem dX4_tellEngine_73 : decode cX4_tellEngine 73 = .ok (.getfield 85, 3) := by decide +kernel
theorem dX4_tellEngine_76 : decode cX4_tellEngine 76 = .ok (.ireturn, 1) := by decide +kernel
theorem dX4_tellEngine_77 : decode cX4_tellEngine 77 = .ok (.aload_n 1, 1) := by decide +kernel
theorem dX4_tellEngine_78 : decode cX4_tellEngine 78 = .ok (.getfield 88, 3) := by decide +kernel
theorem dX4_tellEngine_81 : decode cX4_tellEngine 81 = .ok (.ireturn, 1) := by decide +kernel
theorem dX4_tellEngine_82 : decode cX4_tellEngine 82 = .ok (.aload_n 1, 1) := by decide +kernel
theorem dX4_tellEngine_83 : decode cX4_tellEngine 83 = .ok (.getfield 91, 3) := by decide +kernel
theorem dX4_tellEngine_86 : decode cX4_tellEngine 86 = .ok (.ireturn, 1) := by decide +kernel
theorem dX4_tellEngine_87 : decode cX4_tellEngine 87 = .ok (.aload_n 0, 1) := by decide +kernel
theorem dX4_tellEngine_88 : decode cX4_tellEngine 88 = .ok (.aload_n 1, 1) := by decide +kernel
theorem dX4_tellEngine_89 : decode cX4_tellEngine 89 = .ok (.invokevirtual 94, 3) := by decide +kernel
theorem dX4_tellEngine_92 : decode cX4_tellEngine 92 = .ok (.ireturn, 1) := by decide +kernel
theorem dX4_tellEngine_93 : decode cX4_tellEngine 93 = .ok (.aload_n 1, 1) := by decide +kernel
theorem dX4_tellEngine_94 : decode cX4_tellEngine 94 = .ok (.getfield 98, 3) := by decide +kernel
theorem dX4_tellEngine_97 : decode cX4_tellEngine 97 = .ok (.ireturn, 1) := by decide +kernel
theorem dX4_tellEngine_98 : decode cX4_tellEngine 98 = .ok (.aload_n 1, 1) := by decide +kernel
theorem dX4_tellEngine_99 : decode cX4_tellEngine 99 = .ok (.invokevirtual 101, 3) := by decide +kernel
theorem dX4_tellEngine_102 : decode cX4_tellEngine 102 = .ok (.ireturn, 1) := by decide +kernel
theorem dX4_housesThatAre_0 : decode cX4_housesThatAre 0 = .ok (.iconst 0, 1) := by decide +kernel
theorem dX4_housesThatAre_1 : decode cX4_housesThatAre 1 = .ok (.istore_n 2, 1) := by decide +kernel
theorem dX4_housesThatAre_2 : decode cX4_housesThatAre 2 = .ok (.iconst 0, 1) := by decide +kernel
theorem dX4_housesThatAre_3 : decode cX4_housesThatAre 3 = .ok (.istore_n 3, 1) := by decide +kernel
theorem dX4_housesThatAre_4 : decode cX4_housesThatAre 4 = .ok (.iload_n 3, 1) := by decide +kernel
theorem dX4_housesThatAre_5 : decode cX4_housesThatAre 5 = .ok (.aload_n 0, 1) := by decide +kernel
theorem dX4_housesThatAre_6 : decode cX4_housesThatAre 6 = .ok (.getfield 12, 3) := by decide +kernel
theorem dX4_housesThatAre_9 : decode cX4_housesThatAre 9 = .ok (.invokevirtual 28, 3) := by decide +kernel
theorem dX4_housesThatAre_12 : decode cX4_housesThatAre 12 = .ok (.if_icmp .ge 30, 3) := by decide +kernel
theorem dX4_housesThatAre_15 : decode cX4_housesThatAre 15 = .ok (.aload_n 0, 1) := by decide +kernel
theorem dX4_housesThatAre_16 : decode cX4_housesThatAre 16 = .ok (.getfield 12, 3) := by decide +kernel
theorem dX4_housesThatAre_19 : decode cX4_housesThatAre 19 = .ok (.iload_n 3, 1) := by decide +kernel
theorem dX4_housesThatAre_20 : decode cX4_housesThatAre 20 = .ok (.invokevirtual 41, 3) := by decide +kernel
theorem dX4_housesThatAre_23 : decode cX4_housesThatAre 23 = .ok (.checkcast 32, 3) := by decide +kernel
theorem dX4_housesThatAre_26 : decode cX4_housesThatAre 26 = .ok (.getfield 104, 3) := by decide +kernel
theorem dX4_housesThatAre_29 : decode cX4_housesThatAre 29 = .ok (.iload_n 1, 1) := by decide +kernel
theorem dX4_housesThatAre_30 : decode cX4_housesThatAre 30 = .ok (.if_icmp .ne 6, 3) := by decide +kernel
theorem dX4_housesThatAre_33 : decode cX4_housesThatAre 33 = .ok (.iinc 2 1, 3) := by decide +kernel
theorem dX4_housesThatAre_36 : decode cX4_housesThatAre 36 = .ok (.iinc 3 1, 3) := by decide +kernel
theorem dX4_housesThatAre_39 : decode cX4_housesThatAre 39 = .ok (.goto (-35), 3) := by decide +kernel
theorem dX4_housesThatAre_42 : decode cX4_housesThatAre 42 = .ok (.iload_n 2, 1) := by decide +kernel
theorem dX4_housesThatAre_43 : decode cX4_housesThatAre 43 = .ok (.ireturn, 1) := by decide +kernel
theorem dX4_sumOverHouses_0 : decode cX4_sumOverHouses 0 = .ok (.iconst 0, 1) := by decide +kernel
theorem dX4_sumOverHouses_1 : decode cX4_sumOverHouses 1 = .ok (.istore_n 2, 1) := by decide +kernel
theorem dX4_sumOverHouses_2 : decode cX4_sumOverHouses 2 = .ok (.iconst 0, 1) := by decide +kernel
theorem dX4_sumOverHouses_3 : decode cX4_sumOverHouses 3 = .ok (.istore_n 3, 1) := by decide +kernel
theorem dX4_sumOverHouses_4 : decode cX4_sumOverHouses 4 = .ok (.iload_n 3, 1) := by decide +kernel
theorem dX4_sumOverHouses_5 : decode cX4_sumOverHouses 5 = .ok (.aload_n 0, 1) := by decide +kernel
theorem dX4_sumOverHouses_6 : decode cX4_sumOverHouses 6 = .ok (.getfield 12, 3) := by decide +kernel
theorem dX4_sumOverHouses_9 : decode cX4_sumOverHouses 9 = .ok (.invokevirtual 28, 3) := by decide +kernel
theorem dX4_sumOverHouses_12 : decode cX4_sumOverHouses 12 = .ok (.if_icmp .ge 27, 3) := by decide +kernel
theorem dX4_sumOverHouses_15 : decode cX4_sumOverHouses 15 = .ok (.iload_n 2, 1) := by decide +kernel
theorem dX4_sumOverHouses_16 : decode cX4_sumOverHouses 16 = .ok (.aload_n 0, 1) := by decide +kernel
theorem dX4_sumOverHouses_17 : decode cX4_sumOverHouses 17 = .ok (.getfield 12, 3) := by decide +kernel
theorem dX4_sumOverHouses_20 : decode cX4_sumOverHouses 20 = .ok (.iload_n 3, 1) := by decide +kernel
theorem dX4_sumOverHouses_21 : decode cX4_sumOverHouses 21 = .ok (.invokevirtual 41, 3) := by decide +kernel
theorem dX4_sumOverHouses_24 : decode cX4_sumOverHouses 24 = .ok (.checkcast 32, 3) := by decide +kernel
theorem dX4_sumOverHouses_27 : decode cX4_sumOverHouses 27 = .ok (.iload_n 1, 1) := by decide +kernel
theorem dX4_sumOverHouses_28 : decode cX4_sumOverHouses 28 = .ok (.invokevirtual 107, 3) := by decide +kernel
theorem dX4_sumOverHouses_31 : decode cX4_sumOverHouses 31 = .ok (.iadd, 1) := by decide +kernel
theorem dX4_sumOverHouses_32 : decode cX4_sumOverHouses 32 = .ok (.istore_n 2, 1) := by decide +kernel
theorem dX4_sumOverHouses_33 : decode cX4_sumOverHouses 33 = .ok (.iinc 3 1, 3) := by decide +kernel
theorem dX4_sumOverHouses_36 : decode cX4_sumOverHouses 36 = .ok (.goto (-32), 3) := by decide +kernel
theorem dX4_sumOverHouses_39 : decode cX4_sumOverHouses 39 = .ok (.iload_n 2, 1) := by decide +kernel
theorem dX4_sumOverHouses_40 : decode cX4_sumOverHouses 40 = .ok (.ireturn, 1) := by decide +kernel
theorem dX4_waterOfPonds_0 : decode cX4_waterOfPonds 0 = .ok (.iconst 0, 1) := by decide +kernel
theorem dX4_waterOfPonds_1 : decode cX4_waterOfPonds 1 = .ok (.istore_n 1, 1) := by decide +kernel
theorem dX4_waterOfPonds_2 : decode cX4_waterOfPonds 2 = .ok (.iconst 0, 1) := by decide +kernel
theorem dX4_waterOfPonds_3 : decode cX4_waterOfPonds 3 = .ok (.istore_n 2, 1) := by decide +kernel
theorem dX4_waterOfPonds_4 : decode cX4_waterOfPonds 4 = .ok (.iload_n 2, 1) := by decide +kernel
theorem dX4_waterOfPonds_5 : decode cX4_waterOfPonds 5 = .ok (.aload_n 0, 1) := by decide +kernel
theorem dX4_waterOfPonds_6 : decode cX4_waterOfPonds 6 = .ok (.getfield 18, 3) := by decide +kernel
theorem dX4_waterOfPonds_9 : decode cX4_waterOfPonds 9 = .ok (.invokevirtual 28, 3) := by decide +kernel
theorem dX4_waterOfPonds_12 : decode cX4_waterOfPonds 12 = .ok (.if_icmp .ge 26, 3) := by decide +kernel
theorem dX4_waterOfPonds_15 : decode cX4_waterOfPonds 15 = .ok (.iload_n 1, 1) := by decide +kernel
theorem dX4_waterOfPonds_16 : decode cX4_waterOfPonds 16 = .ok (.aload_n 0, 1) := by decide +kernel
theorem dX4_waterOfPonds_17 : decode cX4_waterOfPonds 17 = .ok (.getfield 18, 3) := by decide +kernel
theorem dX4_waterOfPonds_20 : decode cX4_waterOfPonds 20 = .ok (.iload_n 2, 1) := by decide +kernel
theorem dX4_waterOfPonds_21 : decode cX4_waterOfPonds 21 = .ok (.invokevirtual 41, 3) := by decide +kernel
theorem dX4_waterOfPonds_24 : decode cX4_waterOfPonds 24 = .ok (.checkcast 49, 3) := by decide +kernel
theorem dX4_waterOfPonds_27 : decode cX4_waterOfPonds 27 = .ok (.getfield 110, 3) := by decide +kernel
theorem dX4_waterOfPonds_30 : decode cX4_waterOfPonds 30 = .ok (.iadd, 1) := by decide +kernel
theorem dX4_waterOfPonds_31 : decode cX4_waterOfPonds 31 = .ok (.istore_n 1, 1) := by decide +kernel
theorem dX4_waterOfPonds_32 : decode cX4_waterOfPonds 32 = .ok (.iinc 2 1, 3) := by decide +kernel
theorem dX4_waterOfPonds_35 : decode cX4_waterOfPonds 35 = .ok (.goto (-31), 3) := by decide +kernel
theorem dX4_waterOfPonds_38 : decode cX4_waterOfPonds 38 = .ok (.iload_n 1, 1) := by decide +kernel
theorem dX4_waterOfPonds_39 : decode cX4_waterOfPonds 39 = .ok (.ireturn, 1) := by decide +kernel
theorem dX4_enginesOn_0 : decode cX4_enginesOn 0 = .ok (.iconst 0, 1) := by decide +kernel
theorem dX4_enginesOn_1 : decode cX4_enginesOn 1 = .ok (.istore_n 2, 1) := by decide +kernel
theorem dX4_enginesOn_2 : decode cX4_enginesOn 2 = .ok (.iconst 0, 1) := by decide +kernel
theorem dX4_enginesOn_3 : decode cX4_enginesOn 3 = .ok (.istore_n 3, 1) := by decide +kernel
theorem dX4_enginesOn_4 : decode cX4_enginesOn 4 = .ok (.iload_n 3, 1) := by decide +kernel
theorem dX4_enginesOn_5 : decode cX4_enginesOn 5 = .ok (.aload_n 0, 1) := by decide +kernel
theorem dX4_enginesOn_6 : decode cX4_enginesOn 6 = .ok (.getfield 21, 3) := by decide +kernel
theorem dX4_enginesOn_9 : decode cX4_enginesOn 9 = .ok (.invokevirtual 28, 3) := by decide +kernel
theorem dX4_enginesOn_12 : decode cX4_enginesOn 12 = .ok (.if_icmp .ge 30, 3) := by decide +kernel
theorem dX4_enginesOn_15 : decode cX4_enginesOn 15 = .ok (.aload_n 0, 1) := by decide +kernel
theorem dX4_enginesOn_16 : decode cX4_enginesOn 16 = .ok (.getfield 21, 3) := by decide +kernel
theorem dX4_enginesOn_19 : decode cX4_enginesOn 19 = .ok (.iload_n 3, 1) := by decide +kernel
theorem dX4_enginesOn_20 : decode cX4_enginesOn 20 = .ok (.invokevirtual 41, 3) := by decide +kernel
theorem dX4_enginesOn_23 : decode cX4_enginesOn 23 = .ok (.checkcast 57, 3) := by decide +kernel
theorem dX4_enginesOn_26 : decode cX4_enginesOn 26 = .ok (.getfield 73, 3) := by decide +kernel
theorem dX4_enginesOn_29 : decode cX4_enginesOn 29 = .ok (.iload_n 1, 1) := by decide +kernel
theorem dX4_enginesOn_30 : decode cX4_enginesOn 30 = .ok (.if_icmp .ne 6, 3) := by decide +kernel
theorem dX4_enginesOn_33 : decode cX4_enginesOn 33 = .ok (.iinc 2 1, 3) := by decide +kernel
theorem dX4_enginesOn_36 : decode cX4_enginesOn 36 = .ok (.iinc 3 1, 3) := by decide +kernel
theorem dX4_enginesOn_39 : decode cX4_enginesOn 39 = .ok (.goto (-35), 3) := by decide +kernel
theorem dX4_enginesOn_42 : decode cX4_enginesOn 42 = .ok (.iload_n 2, 1) := by decide +kernel
theorem dX4_enginesOn_43 : decode cX4_enginesOn 43 = .ok (.ireturn, 1) := by decide +kernel
theorem dX4_isGoal_0 : decode cX4_isGoal 0 = .ok (.iconst 0, 1) := by decide +kernel
theorem dX4_isGoal_1 : decode cX4_isGoal 1 = .ok (.istore_n 2, 1) := by decide +kernel
theorem dX4_isGoal_2 : decode cX4_isGoal 2 = .ok (.iload_n 2, 1) := by decide +kernel
theorem dX4_isGoal_3 : decode cX4_isGoal 3 = .ok (.aload_n 0, 1) := by decide +kernel
theorem dX4_isGoal_4 : decode cX4_isGoal 4 = .ok (.getfield 21, 3) := by decide +kernel
theorem dX4_isGoal_7 : decode cX4_isGoal 7 = .ok (.invokevirtual 28, 3) := by decide +kernel
theorem dX4_isGoal_10 : decode cX4_isGoal 10 = .ok (.if_icmp .ge 29, 3) := by decide +kernel
theorem dX4_isGoal_13 : decode cX4_isGoal 13 = .ok (.aload_n 0, 1) := by decide +kernel
theorem dX4_isGoal_14 : decode cX4_isGoal 14 = .ok (.getfield 21, 3) := by decide +kernel
theorem dX4_isGoal_17 : decode cX4_isGoal 17 = .ok (.iload_n 2, 1) := by decide +kernel
theorem dX4_isGoal_18 : decode cX4_isGoal 18 = .ok (.invokevirtual 41, 3) := by decide +kernel
theorem dX4_isGoal_21 : decode cX4_isGoal 21 = .ok (.checkcast 57, 3) := by decide +kernel
theorem dX4_isGoal_24 : decode cX4_isGoal 24 = .ok (.getfield 113, 3) := by decide +kernel
theorem dX4_isGoal_27 : decode cX4_isGoal 27 = .ok (.iload_n 1, 1) := by decide +kernel
theorem dX4_isGoal_28 : decode cX4_isGoal 28 = .ok (.if_icmp .ne 5, 3) := by decide +kernel
theorem dX4_isGoal_31 : decode cX4_isGoal 31 = .ok (.iconst 1, 1) := by decide +kernel
theorem dX4_isGoal_32 : decode cX4_isGoal 32 = .ok (.ireturn, 1) := by decide +kernel
theorem dX4_isGoal_33 : decode cX4_isGoal 33 = .ok (.iinc 2 1, 3) := by decide +kernel
theorem dX4_isGoal_36 : decode cX4_isGoal 36 = .ok (.goto (-34), 3) := by decide +kernel
theorem dX4_isGoal_39 : decode cX4_isGoal 39 = .ok (.iconst 0, 1) := by decide +kernel
theorem dX4_isGoal_40 : decode cX4_isGoal 40 = .ok (.ireturn, 1) := by decide +kernel
theorem dX4_heatNear_0 : decode cX4_heatNear 0 = .ok (.iconst 0, 1) := by decide +kernel
theorem dX4_heatNear_1 : decode cX4_heatNear 1 = .ok (.istore_n 2, 1) := by decide +kernel
theorem dX4_heatNear_2 : decode cX4_heatNear 2 = .ok (.iconst 0, 1) := by decide +kernel
theorem dX4_heatNear_3 : decode cX4_heatNear 3 = .ok (.istore_n 3, 1) := by decide +kernel
theorem dX4_heatNear_4 : decode cX4_heatNear 4 = .ok (.iload_n 3, 1) := by decide +kernel
theorem dX4_heatNear_5 : decode cX4_heatNear 5 = .ok (.aload_n 0, 1) := by decide +kernel
theorem dX4_heatNear_6 : decode cX4_heatNear 6 = .ok (.getfield 12, 3) := by decide +kernel
theorem dX4_heatNear_9 : decode cX4_heatNear 9 = .ok (.invokevirtual 28, 3) := by decide +kernel
theorem dX4_heatNear_12 : decode cX4_heatNear 12 = .ok (.if_icmp .ge 51, 3) := by decide +kernel
theorem dX4_heatNear_15 : decode cX4_heatNear 15 = .ok (.aload_n 0, 1) := by decide +kernel
theorem dX4_heatNear_16 : decode cX4_heatNear 16 = .ok (.getfield 12, 3) := by decide +kernel
theorem dX4_heatNear_19 : decode cX4_heatNear 19 = .ok (.iload_n 3, 1) := by decide +kernel
theorem dX4_heatNear_20 : decode cX4_heatNear 20 = .ok (.invokevirtual 41, 3) := by decide +kernel
theorem dX4_heatNear_23 : decode cX4_heatNear 23 = .ok (.checkcast 32, 3) := by decide +kernel
theorem dX4_heatNear_26 : decode cX4_heatNear 26 = .ok (.astore 4, 2) := by decide +kernel
theorem dX4_heatNear_28 : decode cX4_heatNear 28 = .ok (.aload 4, 2) := by decide +kernel
theorem dX4_heatNear_30 : decode cX4_heatNear 30 = .ok (.getfield 104, 3) := by decide +kernel
theorem dX4_heatNear_33 : decode cX4_heatNear 33 = .ok (.iconst 1, 1) := by decide +kernel
theorem dX4_heatNear_34 : decode cX4_heatNear 34 = .ok (.if_icmp .ne 23, 3) := by decide +kernel
theorem dX4_heatNear_37 : decode cX4_heatNear 37 = .ok (.aload 4, 2) := by decide +kernel
theorem dX4_heatNear_39 : decode cX4_heatNear 39 = .ok (.getfield 116, 3) := by decide +kernel
theorem dX4_heatNear_42 : decode cX4_heatNear 42 = .ok (.iload_n 1, 1) := by decide +kernel
theorem dX4_heatNear_43 : decode cX4_heatNear 43 = .ok (.invokestatic 117, 3) := by decide +kernel
theorem dX4_heatNear_46 : decode cX4_heatNear 46 = .ok (.ifCond .eq 11, 3) := by decide +kernel
theorem dX4_heatNear_49 : decode cX4_heatNear 49 = .ok (.iload_n 2, 1) := by decide +kernel
theorem dX4_heatNear_50 : decode cX4_heatNear 50 = .ok (.aload 4, 2) := by decide +kernel
theorem dX4_heatNear_52 : decode cX4_heatNear 52 = .ok (.getfield 121, 3) := by decide +kernel
theorem dX4_heatNear_55 : decode cX4_heatNear 55 = .ok (.iadd, 1) := by decide +kernel
theorem dX4_heatNear_56 : decode cX4_heatNear 56 = .ok (.istore_n 2, 1) := by decide +kernel
theorem dX4_heatNear_57 : decode cX4_heatNear 57 = .ok (.iinc 3 1, 3) := by decide +kernel
theorem dX4_heatNear_60 : decode cX4_heatNear 60 = .ok (.goto (-56), 3) := by decide +kernel
theorem dX4_heatNear_63 : decode cX4_heatNear 63 = .ok (.iload_n 2, 1) := by decide +kernel
theorem dX4_heatNear_64 : decode cX4_heatNear 64 = .ok (.ireturn, 1) := by decide +kernel
theorem dX4_pondBy_0 : decode cX4_pondBy 0 = .ok (.iconst 0, 1) := by decide +kernel
theorem dX4_pondBy_1 : decode cX4_pondBy 1 = .ok (.istore_n 2, 1) := by decide +kernel
theorem dX4_pondBy_2 : decode cX4_pondBy 2 = .ok (.iload_n 2, 1) := by decide +kernel
theorem dX4_pondBy_3 : decode cX4_pondBy 3 = .ok (.aload_n 0, 1) := by decide +kernel
theorem dX4_pondBy_4 : decode cX4_pondBy 4 = .ok (.getfield 18, 3) := by decide +kernel
theorem dX4_pondBy_7 : decode cX4_pondBy 7 = .ok (.invokevirtual 28, 3) := by decide +kernel
theorem dX4_pondBy_10 : decode cX4_pondBy 10 = .ok (.if_icmp .ge 42, 3) := by decide +kernel
theorem dX4_pondBy_13 : decode cX4_pondBy 13 = .ok (.aload_n 1, 1) := by decide +kernel
theorem dX4_pondBy_14 : decode cX4_pondBy 14 = .ok (.invokevirtual 124, 3) := by decide +kernel
theorem dX4_pondBy_17 : decode cX4_pondBy 17 = .ok (.ifCond .eq 35, 3) := by decide +kernel
theorem dX4_pondBy_20 : decode cX4_pondBy 20 = .ok (.aload_n 0, 1) := by decide +kernel
theorem dX4_pondBy_21 : decode cX4_pondBy 21 = .ok (.getfield 18, 3) := by decide +kernel
theorem dX4_pondBy_24 : decode cX4_pondBy 24 = .ok (.iload_n 2, 1) := by decide +kernel
theorem dX4_pondBy_25 : decode cX4_pondBy 25 = .ok (.invokevirtual 41, 3) := by decide +kernel
theorem dX4_pondBy_28 : decode cX4_pondBy 28 = .ok (.checkcast 49, 3) := by decide +kernel
theorem dX4_pondBy_31 : decode cX4_pondBy 31 = .ok (.getfield 128, 3) := by decide +kernel
theorem dX4_pondBy_34 : decode cX4_pondBy 34 = .ok (.aload_n 1, 1) := by decide +kernel
theorem dX4_pondBy_35 : decode cX4_pondBy 35 = .ok (.getfield 73, 3) := by decide +kernel
theorem dX4_pondBy_38 : decode cX4_pondBy 38 = .ok (.invokestatic 117, 3) := by decide +kernel
theorem dX4_pondBy_41 : decode cX4_pondBy 41 = .ok (.ifCond .eq 5, 3) := by decide +kernel
theorem dX4_pondBy_44 : decode cX4_pondBy 44 = .ok (.iload_n 2, 1) := by decide +kernel
theorem dX4_pondBy_45 : decode cX4_pondBy 45 = .ok (.ireturn, 1) := by decide +kernel
theorem dX4_pondBy_46 : decode cX4_pondBy 46 = .ok (.iinc 2 1, 3) := by decide +kernel
theorem dX4_pondBy_49 : decode cX4_pondBy 49 = .ok (.goto (-47), 3) := by decide +kernel
theorem dX4_pondBy_52 : decode cX4_pondBy 52 = .ok (.iconst (-1), 1) := by decide +kernel
theorem dX4_pondBy_53 : decode cX4_pondBy 53 = .ok (.ireturn, 1) := by decide +kernel
theorem dX4_isEngine_0 : decode cX4_isEngine 0 = .ok (.iload_n 1, 1) := by decide +kernel
theorem dX4_isEngine_1 : decode cX4_isEngine 1 = .ok (.ifCond .lt 18, 3) := by decide +kernel
theorem dX4_isEngine_4 : decode cX4_isEngine 4 = .ok (.iload_n 1, 1) := by decide +kernel
theorem dX4_isEngine_5 : decode cX4_isEngine 5 = .ok (.aload_n 0, 1) := by decide +kernel
theorem dX4_isEngine_6 : decode cX4_isEngine 6 = .ok (.getfield 21, 3) := by decide +kernel
theorem dX4_isEngine_9 : decode cX4_isEngine 9 = .ok (.invokevirtual 28, 3) := by decide +kernel
theorem dX4_isEngine_12 : decode cX4_isEngine 12 = .ok (.if_icmp .ge 7, 3) := by decide +kernel
theorem dX4_isEngine_15 : decode cX4_isEngine 15 = .ok (.iconst 1, 1) := by decide +kernel
theorem dX4_isEngine_16 : decode cX4_isEngine 16 = .ok (.goto 4, 3) := by decide +kernel
theorem dX4_isEngine_19 : decode cX4_isEngine 19 = .ok (.iconst 0, 1) := by decide +kernel
theorem dX4_isEngine_20 : decode cX4_isEngine 20 = .ok (.ireturn, 1) := by decide +kernel
theorem dX4_isHouse_0 : decode cX4_isHouse 0 = .ok (.iload_n 1, 1) := by decide +kernel
theorem dX4_isHouse_1 : decode cX4_isHouse 1 = .ok (.ifCond .lt 18, 3) := by decide +kernel
theorem dX4_isHouse_4 : decode cX4_isHouse 4 = .ok (.iload_n 1, 1) := by decide +kernel
theorem dX4_isHouse_5 : decode cX4_isHouse 5 = .ok (.aload_n 0, 1) := by decide +kernel
theorem dX4_isHouse_6 : decode cX4_isHouse 6 = .ok (.getfield 12, 3) := by decide +kernel
theorem dX4_isHouse_9 : decode cX4_isHouse 9 = .ok (.invokevirtual 28, 3) := by decide +kernel
theorem dX4_isHouse_12 : decode cX4_isHouse 12 = .ok (.if_icmp .ge 7, 3) := by decide +kernel
theorem dX4_isHouse_15 : decode cX4_isHouse 15 = .ok (.iconst 1, 1) := by decide +kernel
theorem dX4_isHouse_16 : decode cX4_isHouse 16 = .ok (.goto 4, 3) := by decide +kernel
theorem dX4_isHouse_19 : decode cX4_isHouse 19 = .ok (.iconst 0, 1) := by decide +kernel
theorem dX4_isHouse_20 : decode cX4_isHouse 20 = .ok (.ireturn, 1) := by decide +kernel
theorem dX4_hosesLead_0 : decode cX4_hosesLead 0 = .ok (.iload_n 1, 1) := by decide +kernel
theorem dX4_hosesLead_1 : decode cX4_hosesLead 1 = .ok (.istore_n 3, 1) := by decide +kernel
theorem dX4_hosesLead_2 : decode cX4_hosesLead 2 = .ok (.iconst 0, 1) := by decide +kernel
theorem dX4_hosesLead_3 : decode cX4_hosesLead 3 = .ok (.istore 4, 2) := by decide +kernel
theorem dX4_hosesLead_5 : decode cX4_hosesLead 5 = .ok (.iload 4, 2) := by decide +kernel
theorem dX4_hosesLead_7 : decode cX4_hosesLead 7 = .ok (.bipush 6, 2) := by decide +kernel
theorem dX4_hosesLead_9 : decode cX4_hosesLead 9 = .ok (.if_icmp .gt 39, 3) := by decide +kernel
theorem dX4_hosesLead_12 : decode cX4_hosesLead 12 = .ok (.aload_n 0, 1) := by decide +kernel
theorem dX4_hosesLead_13 : decode cX4_hosesLead 13 = .ok (.iload_n 3, 1) := by decide +kernel
theorem dX4_hosesLead_14 : decode cX4_hosesLead 14 = .ok (.invokevirtual 129, 3) := by decide +kernel
theorem dX4_hosesLead_17 : decode cX4_hosesLead 17 = .ok (.ifCond .eq 31, 3) := by decide +kernel
theorem dX4_hosesLead_20 : decode cX4_hosesLead 20 = .ok (.iload_n 3, 1) := by decide +kernel
theorem dX4_hosesLead_21 : decode cX4_hosesLead 21 = .ok (.iload_n 2, 1) := by decide +kernel
theorem dX4_hosesLead_22 : decode cX4_hosesLead 22 = .ok (.if_icmp .ne 5, 3) := by decide +kernel
theorem dX4_hosesLead_25 : decode cX4_hosesLead 25 = .ok (.iconst 1, 1) := by decide +kernel
theorem dX4_hosesLead_26 : decode cX4_hosesLead 26 = .ok (.ireturn, 1) := by decide +kernel
theorem dX4_hosesLead_27 : decode cX4_hosesLead 27 = .ok (.aload_n 0, 1) := by decide +kernel
theorem dX4_hosesLead_28 : decode cX4_hosesLead 28 = .ok (.getfield 21, 3) := by decide +kernel
theorem dX4_hosesLead_31 : decode cX4_hosesLead 31 = .ok (.iload_n 3, 1) := by decide +kernel
theorem dX4_hosesLead_32 : decode cX4_hosesLead 32 = .ok (.invokevirtual 41, 3) := by decide +kernel
theorem dX4_hosesLead_35 : decode cX4_hosesLead 35 = .ok (.checkcast 57, 3) := by decide +kernel
theorem dX4_hosesLead_38 : decode cX4_hosesLead 38 = .ok (.getfield 91, 3) := by decide +kernel
theorem dX4_hosesLead_41 : decode cX4_hosesLead 41 = .ok (.istore_n 3, 1) := by decide +kernel
theorem dX4_hosesLead_42 : decode cX4_hosesLead 42 = .ok (.iinc 4 1, 3) := by decide +kernel
theorem dX4_hosesLead_45 : decode cX4_hosesLead 45 = .ok (.goto (-40), 3) := by decide +kernel
theorem dX4_hosesLead_48 : decode cX4_hosesLead 48 = .ok (.iconst 0, 1) := by decide +kernel
theorem dX4_hosesLead_49 : decode cX4_hosesLead 49 = .ok (.ireturn, 1) := by decide +kernel
theorem dX4_takeUpHosesOfAndTo_0 : decode cX4_takeUpHosesOfAndTo 0 = .ok (.iconst 0, 1) := by decide +kernel
theorem dX4_takeUpHosesOfAndTo_1 : decode cX4_takeUpHosesOfAndTo 1 = .ok (.istore_n 2, 1) := by decide +kernel
theorem dX4_takeUpHosesOfAndTo_2 : decode cX4_takeUpHosesOfAndTo 2 = .ok (.iload_n 2, 1) := by decide +kernel
theorem dX4_takeUpHosesOfAndTo_3 : decode cX4_takeUpHosesOfAndTo 3 = .ok (.aload_n 0, 1) := by decide +kernel
theorem dX4_takeUpHosesOfAndTo_4 : decode cX4_takeUpHosesOfAndTo 4 = .ok (.getfield 21, 3) := by decide +kernel
theorem dX4_takeUpHosesOfAndTo_7 : decode cX4_takeUpHosesOfAndTo 7 = .ok (.invokevirtual 28, 3) := by decide +kernel
theorem dX4_takeUpHosesOfAndTo_10 : decode cX4_takeUpHosesOfAndTo 10 = .ok (.if_icmp .ge 39, 3) := by decide +kernel
theorem dX4_takeUpHosesOfAndTo_13 : decode cX4_takeUpHosesOfAndTo 13 = .ok (.aload_n 0, 1) := by decide +kernel
theorem dX4_takeUpHosesOfAndTo_14 : decode cX4_takeUpHosesOfAndTo 14 = .ok (.getfield 21, 3) := by decide +kernel
theorem dX4_takeUpHosesOfAndTo_17 : decode cX4_takeUpHosesOfAndTo 17 = .ok (.iload_n 2, 1) := by decide +kernel
theorem dX4_takeUpHosesOfAndTo_18 : decode cX4_takeUpHosesOfAndTo 18 = .ok (.invokevirtual 41, 3) := by decide +kernel
theorem dX4_takeUpHosesOfAndTo_21 : decode cX4_takeUpHosesOfAndTo 21 = .ok (.checkcast 57, 3) := by decide +kernel
theorem dX4_takeUpHosesOfAndTo_24 : decode cX4_takeUpHosesOfAndTo 24 = .ok (.astore_n 3, 1) := by decide +kernel
theorem dX4_takeUpHosesOfAndTo_25 : decode cX4_takeUpHosesOfAndTo 25 = .ok (.iload_n 2, 1) := by decide +kernel
theorem dX4_takeUpHosesOfAndTo_26 : decode cX4_takeUpHosesOfAndTo 26 = .ok (.iload_n 1, 1) := by decide +kernel
theorem dX4_takeUpHosesOfAndTo_27 : decode cX4_takeUpHosesOfAndTo 27 = .ok (.if_icmp .eq 11, 3) := by decide +kernel
theorem dX4_takeUpHosesOfAndTo_30 : decode cX4_takeUpHosesOfAndTo 30 = .ok (.aload_n 3, 1) := by decide +kernel
theorem dX4_takeUpHosesOfAndTo_31 : decode cX4_takeUpHosesOfAndTo 31 = .ok (.getfield 91, 3) := by decide +kernel
theorem dX4_takeUpHosesOfAndTo_34 : decode cX4_takeUpHosesOfAndTo 34 = .ok (.iload_n 1, 1) := by decide +kernel
theorem dX4_takeUpHosesOfAndTo_35 : decode cX4_takeUpHosesOfAndTo 35 = .ok (.if_icmp .ne 8, 3) := by decide +kernel
theorem dX4_takeUpHosesOfAndTo_38 : decode cX4_takeUpHosesOfAndTo 38 = .ok (.aload_n 3, 1) := by decide +kernel
theorem dX4_takeUpHosesOfAndTo_39 : decode cX4_takeUpHosesOfAndTo 39 = .ok (.iconst (-1), 1) := by decide +kernel
theorem dX4_takeUpHosesOfAndTo_40 : decode cX4_takeUpHosesOfAndTo 40 = .ok (.putfield 91, 3) := by decide +kernel
theorem dX4_takeUpHosesOfAndTo_43 : decode cX4_takeUpHosesOfAndTo 43 = .ok (.iinc 2 1, 3) := by decide +kernel
theorem dX4_takeUpHosesOfAndTo_46 : decode cX4_takeUpHosesOfAndTo 46 = .ok (.goto (-44), 3) := by decide +kernel
theorem dX4_takeUpHosesOfAndTo_49 : decode cX4_takeUpHosesOfAndTo 49 = .ok (.return_, 1) := by decide +kernel
theorem dX4_goOn_0 : decode cX4_goOn 0 = .ok (.iconst 0, 1) := by decide +kernel
theorem dX4_goOn_1 : decode cX4_goOn 1 = .ok (.istore_n 2, 1) := by decide +kernel
theorem dX4_goOn_2 : decode cX4_goOn 2 = .ok (.iconst 0, 1) := by decide +kernel
theorem dX4_goOn_3 : decode cX4_goOn 3 = .ok (.istore_n 3, 1) := by decide +kernel
theorem dX4_goOn_4 : decode cX4_goOn 4 = .ok (.iload_n 3, 1) := by decide +kernel
theorem dX4_goOn_5 : decode cX4_goOn 5 = .ok (.iload_n 1, 1) := by decide +kernel
theorem dX4_goOn_6 : decode cX4_goOn 6 = .ok (.if_icmp .ge 70, 3) := by decide +kernel
theorem dX4_goOn_9 : decode cX4_goOn 9 = .ok (.aload_n 0, 1) := by decide +kernel
theorem dX4_goOn_10 : decode cX4_goOn 10 = .ok (.invokevirtual 133, 3) := by decide +kernel
theorem dX4_goOn_13 : decode cX4_goOn 13 = .ok (.aload_n 0, 1) := by decide +kernel
theorem dX4_goOn_14 : decode cX4_goOn 14 = .ok (.invokevirtual 136, 3) := by decide +kernel
theorem dX4_goOn_17 : decode cX4_goOn 17 = .ok (.iconst 0, 1) := by decide +kernel
theorem dX4_goOn_18 : decode cX4_goOn 18 = .ok (.istore 4, 2) := by decide +kernel
theorem dX4_goOn_20 : decode cX4_goOn 20 = .ok (.iload 4, 2) := by decide +kernel
theorem dX4_goOn_22 : decode cX4_goOn 22 = .ok (.aload_n 0, 1) := by decide +kernel
theorem dX4_goOn_23 : decode cX4_goOn 23 = .ok (.getfield 12, 3) := by decide +kernel
theorem dX4_goOn_26 : decode cX4_goOn 26 = .ok (.invokevirtual 28, 3) := by decide +kernel
theorem dX4_goOn_29 : decode cX4_goOn 29 = .ok (.if_icmp .ge 24, 3) := by decide +kernel
theorem dX4_goOn_32 : decode cX4_goOn 32 = .ok (.aload_n 0, 1) := by decide +kernel
theorem dX4_goOn_33 : decode cX4_goOn 33 = .ok (.getfield 12, 3) := by decide +kernel
theorem dX4_goOn_36 : decode cX4_goOn 36 = .ok (.iload 4, 2) := by decide +kernel
theorem dX4_goOn_38 : decode cX4_goOn 38 = .ok (.invokevirtual 41, 3) := by decide +kernel
theorem dX4_goOn_41 : decode cX4_goOn 41 = .ok (.checkcast 32, 3) := by decide +kernel
theorem dX4_goOn_44 : decode cX4_goOn 44 = .ok (.invokevirtual 139, 3) := by decide +kernel
theorem dX4_goOn_47 : decode cX4_goOn 47 = .ok (.iinc 4 1, 3) := by decide +kernel
theorem dX4_goOn_50 : decode cX4_goOn 50 = .ok (.goto (-30), 3) := by decide +kernel
theorem dX4_goOn_53 : decode cX4_goOn 53 = .ok (.iload_n 2, 1) := by decide +kernel
theorem dX4_goOn_54 : decode cX4_goOn 54 = .ok (.aload_n 0, 1) := by decide +kernel
theorem dX4_goOn_55 : decode cX4_goOn 55 = .ok (.invokevirtual 142, 3) := by decide +kernel
theorem dX4_goOn_58 : decode cX4_goOn 58 = .ok (.iadd, 1) := by decide +kernel
theorem dX4_goOn_59 : decode cX4_goOn 59 = .ok (.istore_n 2, 1) := by decide +kernel
theorem dX4_goOn_60 : decode cX4_goOn 60 = .ok (.aload_n 0, 1) := by decide +kernel
theorem dX4_goOn_61 : decode cX4_goOn 61 = .ok (.dup, 1) := by decide +kernel
theorem dX4_goOn_62 : decode cX4_goOn 62 = .ok (.getfield 24, 3) := by decide +kernel
theorem dX4_goOn_65 : decode cX4_goOn 65 = .ok (.iconst 1, 1) := by decide +kernel
theorem dX4_goOn_66 : decode cX4_goOn 66 = .ok (.iadd, 1) := by decide +kernel
theorem dX4_goOn_67 : decode cX4_goOn 67 = .ok (.putfield 24, 3) := by decide +kernel
theorem dX4_goOn_70 : decode cX4_goOn 70 = .ok (.iinc 3 1, 3) := by decide +kernel
theorem dX4_goOn_73 : decode cX4_goOn 73 = .ok (.goto (-69), 3) := by decide +kernel
theorem dX4_goOn_76 : decode cX4_goOn 76 = .ok (.iload_n 2, 1) := by decide +kernel
theorem dX4_goOn_77 : decode cX4_goOn 77 = .ok (.ireturn, 1) := by decide +kernel
theorem dX4_fireAndDrive_0 : decode cX4_fireAndDrive 0 = .ok (.iconst 0, 1) := by decide +kernel
theorem dX4_fireAndDrive_1 : decode cX4_fireAndDrive 1 = .ok (.istore_n 1, 1) := by decide +kernel
theorem dX4_fireAndDrive_2 : decode cX4_fireAndDrive 2 = .ok (.iload_n 1, 1) := by decide +kernel
theorem dX4_fireAndDrive_3 : decode cX4_fireAndDrive 3 = .ok (.aload_n 0, 1) := by decide +kernel
theorem dX4_fireAndDrive_4 : decode cX4_fireAndDrive 4 = .ok (.getfield 21, 3) := by decide +kernel
theorem dX4_fireAndDrive_7 : decode cX4_fireAndDrive 7 = .ok (.invokevirtual 28, 3) := by decide +kernel
theorem dX4_fireAndDrive_10 : decode cX4_fireAndDrive 10 = .ok (.if_icmp .ge 37, 3) := by decide +kernel
theorem dX4_fireAndDrive_13 : decode cX4_fireAndDrive 13 = .ok (.aload_n 0, 1) := by decide +kernel
theorem dX4_fireAndDrive_14 : decode cX4_fireAndDrive 14 = .ok (.getfield 21, 3) := by decide +kernel
theorem dX4_fireAndDrive_17 : decode cX4_fireAndDrive 17 = .ok (.iload_n 1, 1) := by decide +kernel
theorem dX4_fireAndDrive_18 : decode cX4_fireAndDrive 18 = .ok (.invokevirtual 41, 3) := by decide +kernel
theorem dX4_fireAndDrive_21 : decode cX4_fireAndDrive 21 = .ok (.checkcast 57, 3) := by decide +kernel
theorem dX4_fireAndDrive_24 : decode cX4_fireAndDrive 24 = .ok (.invokevirtual 145, 3) := by decide +kernel
theorem dX4_fireAndDrive_27 : decode cX4_fireAndDrive 27 = .ok (.aload_n 0, 1) := by decide +kernel
theorem dX4_fireAndDrive_28 : decode cX4_fireAndDrive 28 = .ok (.getfield 21, 3) := by decide +kernel
theorem dX4_fireAndDrive_31 : decode cX4_fireAndDrive 31 = .ok (.iload_n 1, 1) := by decide +kernel
theorem dX4_fireAndDrive_32 : decode cX4_fireAndDrive 32 = .ok (.invokevirtual 41, 3) := by decide +kernel
theorem dX4_fireAndDrive_35 : decode cX4_fireAndDrive 35 = .ok (.checkcast 57, 3) := by decide +kernel
theorem dX4_fireAndDrive_38 : decode cX4_fireAndDrive 38 = .ok (.invokevirtual 148, 3) := by decide +kernel
theorem dX4_fireAndDrive_41 : decode cX4_fireAndDrive 41 = .ok (.iinc 1 1, 3) := by decide +kernel
theorem dX4_fireAndDrive_44 : decode cX4_fireAndDrive 44 = .ok (.goto (-42), 3) := by decide +kernel
theorem dX4_fireAndDrive_47 : decode cX4_fireAndDrive 47 = .ok (.return_, 1) := by decide +kernel
theorem dX4_moveWater_0 : decode cX4_moveWater 0 = .ok (.iconst 0, 1) := by decide +kernel
theorem dX4_moveWater_1 : decode cX4_moveWater 1 = .ok (.istore_n 1, 1) := by decide +kernel
theorem dX4_moveWater_2 : decode cX4_moveWater 2 = .ok (.iload_n 1, 1) := by decide +kernel
theorem dX4_moveWater_3 : decode cX4_moveWater 3 = .ok (.aload_n 0, 1) := by decide +kernel
theorem dX4_moveWater_4 : decode cX4_moveWater 4 = .ok (.getfield 12, 3) := by decide +kernel
theorem dX4_moveWater_7 : decode cX4_moveWater 7 = .ok (.invokevirtual 28, 3) := by decide +kernel
theorem dX4_moveWater_10 : decode cX4_moveWater 10 = .ok (.if_icmp .ge 24, 3) := by decide +kernel
theorem dX4_moveWater_13 : decode cX4_moveWater 13 = .ok (.aload_n 0, 1) := by decide +kernel
theorem dX4_moveWater_14 : decode cX4_moveWater 14 = .ok (.getfield 12, 3) := by decide +kernel
theorem dX4_moveWater_17 : decode cX4_moveWater 17 = .ok (.iload_n 1, 1) := by decide +kernel
theorem dX4_moveWater_18 : decode cX4_moveWater 18 = .ok (.invokevirtual 41, 3) := by decide +kernel
theorem dX4_moveWater_21 : decode cX4_moveWater 21 = .ok (.checkcast 32, 3) := by decide +kernel
theorem dX4_moveWater_24 : decode cX4_moveWater 24 = .ok (.iconst 0, 1) := by decide +kernel
theorem dX4_moveWater_25 : decode cX4_moveWater 25 = .ok (.putfield 151, 3) := by decide +kernel
theorem dX4_moveWater_28 : decode cX4_moveWater 28 = .ok (.iinc 1 1, 3) := by decide +kernel
theorem dX4_moveWater_31 : decode cX4_moveWater 31 = .ok (.goto (-29), 3) := by decide +kernel
theorem dX4_moveWater_34 : decode cX4_moveWater 34 = .ok (.iconst 0, 1) := by decide +kernel
theorem dX4_moveWater_35 : decode cX4_moveWater 35 = .ok (.istore_n 1, 1) := by decide +kernel
theorem dX4_moveWater_36 : decode cX4_moveWater 36 = .ok (.iload_n 1, 1) := by decide +kernel
theorem dX4_moveWater_37 : decode cX4_moveWater 37 = .ok (.aload_n 0, 1) := by decide +kernel
theorem dX4_moveWater_38 : decode cX4_moveWater 38 = .ok (.getfield 21, 3) := by decide +kernel
theorem dX4_moveWater_41 : decode cX4_moveWater 41 = .ok (.invokevirtual 28, 3) := by decide +kernel
theorem dX4_moveWater_44 : decode cX4_moveWater 44 = .ok (.if_icmp .ge 36, 3) := by decide +kernel
theorem dX4_moveWater_47 : decode cX4_moveWater 47 = .ok (.aload_n 0, 1) := by decide +kernel
theorem dX4_moveWater_48 : decode cX4_moveWater 48 = .ok (.getfield 21, 3) := by decide +kernel
theorem dX4_moveWater_51 : decode cX4_moveWater 51 = .ok (.iload_n 1, 1) := by decide +kernel
theorem dX4_moveWater_52 : decode cX4_moveWater 52 = .ok (.invokevirtual 41, 3) := by decide +kernel
theorem dX4_moveWater_55 : decode cX4_moveWater 55 = .ok (.checkcast 57, 3) := by decide +kernel
theorem dX4_moveWater_58 : decode cX4_moveWater 58 = .ok (.astore_n 2, 1) := by decide +kernel
theorem dX4_moveWater_59 : decode cX4_moveWater 59 = .ok (.aload_n 2, 1) := by decide +kernel
theorem dX4_moveWater_60 : decode cX4_moveWater 60 = .ok (.iconst 0, 1) := by decide +kernel
theorem dX4_moveWater_61 : decode cX4_moveWater 61 = .ok (.putfield 154, 3) := by decide +kernel
theorem dX4_moveWater_64 : decode cX4_moveWater 64 = .ok (.aload_n 2, 1) := by decide +kernel
theorem dX4_moveWater_65 : decode cX4_moveWater 65 = .ok (.iconst 0, 1) := by decide +kernel
theorem dX4_moveWater_66 : decode cX4_moveWater 66 = .ok (.putfield 98, 3) := by decide +kernel
theorem dX4_moveWater_69 : decode cX4_moveWater 69 = .ok (.aload_n 2, 1) := by decide +kernel
theorem dX4_moveWater_70 : decode cX4_moveWater 70 = .ok (.iconst 0, 1) := by decide +kernel
theorem dX4_moveWater_71 : decode cX4_moveWater 71 = .ok (.putfield 155, 3) := by decide +kernel
theorem dX4_moveWater_74 : decode cX4_moveWater 74 = .ok (.iinc 1 1, 3) := by decide +kernel
theorem dX4_moveWater_77 : decode cX4_moveWater 77 = .ok (.goto (-41), 3) := by decide +kernel
theorem dX4_moveWater_80 : decode cX4_moveWater 80 = .ok (.iconst 0, 1) := by decide +kernel
theorem dX4_moveWater_81 : decode cX4_moveWater 81 = .ok (.istore_n 1, 1) := by decide +kernel
theorem dX4_moveWater_82 : decode cX4_moveWater 82 = .ok (.iload_n 1, 1) := by decide +kernel
theorem dX4_moveWater_83 : decode cX4_moveWater 83 = .ok (.aload_n 0, 1) := by decide +kernel
theorem dX4_moveWater_84 : decode cX4_moveWater 84 = .ok (.getfield 21, 3) := by decide +kernel
theorem dX4_moveWater_87 : decode cX4_moveWater 87 = .ok (.invokevirtual 28, 3) := by decide +kernel
theorem dX4_moveWater_90 : decode cX4_moveWater 90 = .ok (.if_icmp .ge 44, 3) := by decide +kernel
theorem dX4_moveWater_93 : decode cX4_moveWater 93 = .ok (.aload_n 0, 1) := by decide +kernel
theorem dX4_moveWater_94 : decode cX4_moveWater 94 = .ok (.invokevirtual 159, 3) := by decide +kernel
theorem dX4_moveWater_97 : decode cX4_moveWater 97 = .ok (.istore_n 2, 1) := by decide +kernel
theorem dX4_moveWater_98 : decode cX4_moveWater 98 = .ok (.aload_n 0, 1) := by decide +kernel
theorem dX4_moveWater_99 : decode cX4_moveWater 99 = .ok (.iload_n 2, 1) := by decide +kernel
theorem dX4_moveWater_100 : decode cX4_moveWater 100 = .ok (.invokevirtual 129, 3) := by decide +kernel
theorem dX4_moveWater_103 : decode cX4_moveWater 103 = .ok (.ifCond .eq 25, 3) := by decide +kernel
theorem dX4_moveWater_106 : decode cX4_moveWater 106 = .ok (.aload_n 0, 1) := by decide +kernel
theorem dX4_moveWater_107 : decode cX4_moveWater 107 = .ok (.getfield 21, 3) := by decide +kernel
theorem dX4_moveWater_110 : decode cX4_moveWater 110 = .ok (.iload_n 2, 1) := by decide +kernel
theorem dX4_moveWater_111 : decode cX4_moveWater 111 = .ok (.invokevirtual 41, 3) := by decide +kernel
theorem dX4_moveWater_114 : decode cX4_moveWater 114 = .ok (.checkcast 57, 3) := by decide +kernel
theorem dX4_moveWater_117 : decode cX4_moveWater 117 = .ok (.astore_n 3, 1) := by decide +kernel
theorem dX4_moveWater_118 : decode cX4_moveWater 118 = .ok (.aload_n 0, 1) := by decide +kernel
theorem dX4_moveWater_119 : decode cX4_moveWater 119 = .ok (.aload_n 3, 1) := by decide +kernel
theorem dX4_moveWater_120 : decode cX4_moveWater 120 = .ok (.invokevirtual 162, 3) := by decide +kernel
theorem dX4_moveWater_123 : decode cX4_moveWater 123 = .ok (.aload_n 0, 1) := by decide +kernel
theorem dX4_moveWater_124 : decode cX4_moveWater 124 = .ok (.aload_n 3, 1) := by decide +kernel
theorem dX4_moveWater_125 : decode cX4_moveWater 125 = .ok (.invokevirtual 165, 3) := by decide +kernel
theorem dX4_moveWater_128 : decode cX4_moveWater 128 = .ok (.iinc 1 1, 3) := by decide +kernel
theorem dX4_moveWater_131 : decode cX4_moveWater 131 = .ok (.goto (-49), 3) := by decide +kernel
theorem dX4_moveWater_134 : decode cX4_moveWater 134 = .ok (.iconst 0, 1) := by decide +kernel
theorem dX4_moveWater_135 : decode cX4_moveWater 135 = .ok (.istore_n 1, 1) := by decide +kernel
theorem dX4_moveWater_136 : decode cX4_moveWater 136 = .ok (.iload_n 1, 1) := by decide +kernel
theorem dX4_moveWater_137 : decode cX4_moveWater 137 = .ok (.aload_n 0, 1) := by decide +kernel
theorem dX4_moveWater_138 : decode cX4_moveWater 138 = .ok (.getfield 21, 3) := by decide +kernel
theorem dX4_moveWater_141 : decode cX4_moveWater 141 = .ok (.invokevirtual 28, 3) := by decide +kernel
theorem dX4_moveWater_144 : decode cX4_moveWater 144 = .ok (.if_icmp .ge 23, 3) := by decide +kernel
theorem dX4_moveWater_147 : decode cX4_moveWater 147 = .ok (.aload_n 0, 1) := by decide +kernel
theorem dX4_moveWater_148 : decode cX4_moveWater 148 = .ok (.getfield 21, 3) := by decide +kernel
theorem dX4_moveWater_151 : decode cX4_moveWater 151 = .ok (.iload_n 1, 1) := by decide +kernel
theorem dX4_moveWater_152 : decode cX4_moveWater 152 = .ok (.invokevirtual 41, 3) := by decide +kernel
theorem dX4_moveWater_155 : decode cX4_moveWater 155 = .ok (.checkcast 57, 3) := by decide +kernel
theorem dX4_moveWater_158 : decode cX4_moveWater 158 = .ok (.invokevirtual 168, 3) := by decide +kernel
theorem dX4_moveWater_161 : decode cX4_moveWater 161 = .ok (.iinc 1 1, 3) := by decide +kernel
theorem dX4_moveWater_164 : decode cX4_moveWater 164 = .ok (.goto (-28), 3) := by decide +kernel
theorem dX4_moveWater_167 : decode cX4_moveWater 167 = .ok (.return_, 1) := by decide +kernel
theorem dX4_nextToAsk_0 : decode cX4_nextToAsk 0 = .ok (.iconst 0, 1) := by decide +kernel
theorem dX4_nextToAsk_1 : decode cX4_nextToAsk 1 = .ok (.istore_n 1, 1) := by decide +kernel
theorem dX4_nextToAsk_2 : decode cX4_nextToAsk 2 = .ok (.iload_n 1, 1) := by decide +kernel
theorem dX4_nextToAsk_3 : decode cX4_nextToAsk 3 = .ok (.aload_n 0, 1) := by decide +kernel
theorem dX4_nextToAsk_4 : decode cX4_nextToAsk 4 = .ok (.getfield 21, 3) := by decide +kernel
theorem dX4_nextToAsk_7 : decode cX4_nextToAsk 7 = .ok (.invokevirtual 28, 3) := by decide +kernel
theorem dX4_nextToAsk_10 : decode cX4_nextToAsk 10 = .ok (.if_icmp .ge 36, 3) := by decide +kernel
theorem dX4_nextToAsk_13 : decode cX4_nextToAsk 13 = .ok (.aload_n 0, 1) := by decide +kernel
theorem dX4_nextToAsk_14 : decode cX4_nextToAsk 14 = .ok (.getfield 21, 3) := by decide +kernel
theorem dX4_nextToAsk_17 : decode cX4_nextToAsk 17 = .ok (.iload_n 1, 1) := by decide +kernel
theorem dX4_nextToAsk_18 : decode cX4_nextToAsk 18 = .ok (.invokevirtual 41, 3) := by decide +kernel
theorem dX4_nextToAsk_21 : decode cX4_nextToAsk 21 = .ok (.checkcast 57, 3) := by decide +kernel
theorem dX4_nextToAsk_24 : decode cX4_nextToAsk 24 = .ok (.getfield 155, 3) := by decide +kernel
theorem dX4_nextToAsk_27 : decode cX4_nextToAsk 27 = .ok (.ifCond .ne 13, 3) := by decide +kernel
theorem dX4_nextToAsk_30 : decode cX4_nextToAsk 30 = .ok (.aload_n 0, 1) := by decide +kernel
theorem dX4_nextToAsk_31 : decode cX4_nextToAsk 31 = .ok (.iload_n 1, 1) := by decide +kernel
theorem dX4_nextToAsk_32 : decode cX4_nextToAsk 32 = .ok (.invokevirtual 171, 3) := by decide +kernel
theorem dX4_nextToAsk_35 : decode cX4_nextToAsk 35 = .ok (.ifCond .ne 5, 3) := by decide +kernel
theorem dX4_nextToAsk_38 : decode cX4_nextToAsk 38 = .ok (.iload_n 1, 1) := by decide +kernel
theorem dX4_nextToAsk_39 : decode cX4_nextToAsk 39 = .ok (.ireturn, 1) := by decide +kernel
theorem dX4_nextToAsk_40 : decode cX4_nextToAsk 40 = .ok (.iinc 1 1, 3) := by decide +kernel
theorem dX4_nextToAsk_43 : decode cX4_nextToAsk 43 = .ok (.goto (-41), 3) := by decide +kernel
theorem dX4_nextToAsk_46 : decode cX4_nextToAsk 46 = .ok (.iconst (-1), 1) := by decide +kernel
theorem dX4_nextToAsk_47 : decode cX4_nextToAsk 47 = .ok (.ireturn, 1) := by decide +kernel
theorem dX4_waitsForWater_0 : decode cX4_waitsForWater 0 = .ok (.iconst 0, 1) := by decide +kernel
theorem dX4_waitsForWater_1 : decode cX4_waitsForWater 1 = .ok (.istore_n 2, 1) := by decide +kernel
theorem dX4_waitsForWater_2 : decode cX4_waitsForWater 2 = .ok (.iload_n 2, 1) := by decide +kernel
theorem dX4_waitsForWater_3 : decode cX4_waitsForWater 3 = .ok (.aload_n 0, 1) := by decide +kernel
theorem dX4_waitsForWater_4 : decode cX4_waitsForWater 4 = .ok (.getfield 21, 3) := by decide +kernel
theorem dX4_waitsForWater_7 : decode cX4_waitsForWater 7 = .ok (.invokevirtual 28, 3) := by decide +kernel
theorem dX4_waitsForWater_10 : decode cX4_waitsForWater 10 = .ok (.if_icmp .ge 38, 3) := by decide +kernel
theorem dX4_waitsForWater_13 : decode cX4_waitsForWater 13 = .ok (.aload_n 0, 1) := by decide +kernel
theorem dX4_waitsForWater_14 : decode cX4_waitsForWater 14 = .ok (.getfield 21, 3) := by decide +kernel
theorem dX4_waitsForWater_17 : decode cX4_waitsForWater 17 = .ok (.iload_n 2, 1) := by decide +kernel
theorem dX4_waitsForWater_18 : decode cX4_waitsForWater 18 = .ok (.invokevirtual 41, 3) := by decide +kernel
theorem dX4_waitsForWater_21 : decode cX4_waitsForWater 21 = .ok (.checkcast 57, 3) := by decide +kernel
theorem dX4_waitsForWater_24 : decode cX4_waitsForWater 24 = .ok (.astore_n 3, 1) := by decide +kernel
theorem dX4_waitsForWater_25 : decode cX4_waitsForWater 25 = .ok (.aload_n 3, 1) := by decide +kernel
theorem dX4_waitsForWater_26 : decode cX4_waitsForWater 26 = .ok (.getfield 155, 3) := by decide +kernel
theorem dX4_waitsForWater_29 : decode cX4_waitsForWater 29 = .ok (.ifCond .ne 13, 3) := by decide +kernel
theorem dX4_waitsForWater_32 : decode cX4_waitsForWater 32 = .ok (.aload_n 3, 1) := by decide +kernel
theorem dX4_waitsForWater_33 : decode cX4_waitsForWater 33 = .ok (.getfield 91, 3) := by decide +kernel
theorem dX4_waitsForWater_36 : decode cX4_waitsForWater 36 = .ok (.iload_n 1, 1) := by decide +kernel
theorem dX4_waitsForWater_37 : decode cX4_waitsForWater 37 = .ok (.if_icmp .ne 5, 3) := by decide +kernel
theorem dX4_waitsForWater_40 : decode cX4_waitsForWater 40 = .ok (.iconst 1, 1) := by decide +kernel
theorem dX4_waitsForWater_41 : decode cX4_waitsForWater 41 = .ok (.ireturn, 1) := by decide +kernel
theorem dX4_waitsForWater_42 : decode cX4_waitsForWater 42 = .ok (.iinc 2 1, 3) := by decide +kernel
theorem dX4_waitsForWater_45 : decode cX4_waitsForWater 45 = .ok (.goto (-43), 3) := by decide +kernel
theorem dX4_waitsForWater_48 : decode cX4_waitsForWater 48 = .ok (.iconst 0, 1) := by decide +kernel
theorem dX4_waitsForWater_49 : decode cX4_waitsForWater 49 = .ok (.ireturn, 1) := by decide +kernel
theorem dX4_ask_0 : decode cX4_ask 0 = .ok (.aload_n 1, 1) := by decide +kernel
theorem dX4_ask_1 : decode cX4_ask 1 = .ok (.iconst 1, 1) := by decide +kernel
theorem dX4_ask_2 : decode cX4_ask 2 = .ok (.putfield 155, 3) := by decide +kernel
theorem dX4_ask_5 : decode cX4_ask 5 = .ok (.aload_n 1, 1) := by decide +kernel
theorem dX4_ask_6 : decode cX4_ask 6 = .ok (.getfield 91, 3) := by decide +kernel
theorem dX4_ask_9 : decode cX4_ask 9 = .ok (.iconst (-1), 1) := by decide +kernel
theorem dX4_ask_10 : decode cX4_ask 10 = .ok (.if_icmp .ne 4, 3) := by decide +kernel
theorem dX4_ask_13 : decode cX4_ask 13 = .ok (.return_, 1) := by decide +kernel
theorem dX4_ask_14 : decode cX4_ask 14 = .ok (.aload_n 1, 1) := by decide +kernel
theorem dX4_ask_15 : decode cX4_ask 15 = .ok (.invokevirtual 101, 3) := by decide +kernel
theorem dX4_ask_18 : decode cX4_ask 18 = .ok (.istore_n 2, 1) := by decide +kernel
theorem dX4_ask_19 : decode cX4_ask 19 = .ok (.aload_n 1, 1) := by decide +kernel
theorem dX4_ask_20 : decode cX4_ask 20 = .ok (.getfield 154, 3) := by decide +kernel
theorem dX4_ask_23 : decode cX4_ask 23 = .ok (.istore_n 3, 1) := by decide +kernel
theorem dX4_ask_24 : decode cX4_ask 24 = .ok (.aload_n 0, 1) := by decide +kernel
theorem dX4_ask_25 : decode cX4_ask 25 = .ok (.aload_n 1, 1) := by decide +kernel
theorem dX4_ask_26 : decode cX4_ask 26 = .ok (.invokevirtual 94, 3) := by decide +kernel
theorem dX4_ask_29 : decode cX4_ask 29 = .ok (.istore 4, 2) := by decide +kernel
theorem dX4_ask_31 : decode cX4_ask 31 = .ok (.iload 4, 2) := by decide +kernel
theorem dX4_ask_33 : decode cX4_ask 33 = .ok (.ifCond .lt 36, 3) := by decide +kernel
theorem dX4_ask_36 : decode cX4_ask 36 = .ok (.iload 4, 2) := by decide +kernel
theorem dX4_ask_38 : decode cX4_ask 38 = .ok (.aload_n 0, 1) := by decide +kernel
theorem dX4_ask_39 : decode cX4_ask 39 = .ok (.getfield 18, 3) := by decide +kernel
theorem dX4_ask_42 : decode cX4_ask 42 = .ok (.invokevirtual 28, 3) := by decide +kernel
theorem dX4_ask_45 : decode cX4_ask 45 = .ok (.if_icmp .ge 24, 3) := by decide +kernel
theorem dX4_ask_48 : decode cX4_ask 48 = .ok (.iload_n 3, 1) := by decide +kernel
theorem dX4_ask_49 : decode cX4_ask 49 = .ok (.aload_n 0, 1) := by decide +kernel
theorem dX4_ask_50 : decode cX4_ask 50 = .ok (.getfield 18, 3) := by decide +kernel
theorem dX4_ask_53 : decode cX4_ask 53 = .ok (.iload 4, 2) := by decide +kernel
theorem dX4_ask_55 : decode cX4_ask 55 = .ok (.invokevirtual 41, 3) := by decide +kernel
theorem dX4_ask_58 : decode cX4_ask 58 = .ok (.checkcast 49, 3) := by decide +kernel
theorem dX4_ask_61 : decode cX4_ask 61 = .ok (.iload_n 2, 1) := by decide +kernel
theorem dX4_ask_62 : decode cX4_ask 62 = .ok (.iload_n 3, 1) := by decide +kernel
theorem dX4_ask_63 : decode cX4_ask 63 = .ok (.isub, 1) := by decide +kernel
theorem dX4_ask_64 : decode cX4_ask 64 = .ok (.invokevirtual 174, 3) := by decide +kernel
theorem dX4_ask_67 : decode cX4_ask 67 = .ok (.iadd, 1) := by decide +kernel
theorem dX4_ask_68 : decode cX4_ask 68 = .ok (.istore_n 3, 1) := by decide +kernel
theorem dX4_ask_69 : decode cX4_ask 69 = .ok (.aload_n 1, 1) := by decide +kernel
theorem dX4_ask_70 : decode cX4_ask 70 = .ok (.iload_n 3, 1) := by decide +kernel
theorem dX4_ask_71 : decode cX4_ask 71 = .ok (.iload_n 2, 1) := by decide +kernel
theorem dX4_ask_72 : decode cX4_ask 72 = .ok (.invokestatic 177, 3) := by decide +kernel
theorem dX4_ask_75 : decode cX4_ask 75 = .ok (.putfield 98, 3) := by decide +kernel
theorem dX4_ask_78 : decode cX4_ask 78 = .ok (.return_, 1) := by decide +kernel
theorem dX4_sendThroughHose_0 : decode cX4_sendThroughHose 0 = .ok (.aload_n 1, 1) := by decide +kernel
theorem dX4_sendThroughHose_1 : decode cX4_sendThroughHose 1 = .ok (.getfield 91, 3) := by decide +kernel
theorem dX4_sendThroughHose_4 : decode cX4_sendThroughHose 4 = .ok (.bipush 100, 2) := by decide +kernel
theorem dX4_sendThroughHose_6 : decode cX4_sendThroughHose 6 = .ok (.isub, 1) := by decide +kernel
theorem dX4_sendThroughHose_7 : decode cX4_sendThroughHose 7 = .ok (.istore_n 2, 1) := by decide +kernel
theorem dX4_sendThroughHose_8 : decode cX4_sendThroughHose 8 = .ok (.aload_n 0, 1) := by decide +kernel
theorem dX4_sendThroughHose_9 : decode cX4_sendThroughHose 9 = .ok (.aload_n 1, 1) := by decide +kernel
theorem dX4_sendThroughHose_10 : decode cX4_sendThroughHose 10 = .ok (.getfield 91, 3) := by decide +kernel
theorem dX4_sendThroughHose_13 : decode cX4_sendThroughHose 13 = .ok (.invokevirtual 129, 3) := by decide +kernel
theorem dX4_sendThroughHose_16 : decode cX4_sendThroughHose 16 = .ok (.ifCond .eq 48, 3) := by decide +kernel
theorem dX4_sendThroughHose_19 : decode cX4_sendThroughHose 19 = .ok (.aload_n 0, 1) := by decide +kernel
theorem dX4_sendThroughHose_20 : decode cX4_sendThroughHose 20 = .ok (.getfield 21, 3) := by decide +kernel
theorem dX4_sendThroughHose_23 : decode cX4_sendThroughHose 23 = .ok (.aload_n 1, 1) := by decide +kernel
theorem dX4_sendThroughHose_24 : decode cX4_sendThroughHose 24 = .ok (.getfield 91, 3) := by decide +kernel
theorem dX4_sendThroughHose_27 : decode cX4_sendThroughHose 27 = .ok (.invokevirtual 41, 3) := by decide +kernel
theorem dX4_sendThroughHose_30 : decode cX4_sendThroughHose 30 = .ok (.checkcast 57, 3) := by decide +kernel
theorem dX4_sendThroughHose_33 : decode cX4_sendThroughHose 33 = .ok (.astore_n 3, 1) := by decide +kernel
theorem dX4_sendThroughHose_34 : decode cX4_sendThroughHose 34 = .ok (.aload_n 3, 1) := by decide +kernel
theorem dX4_sendThroughHose_35 : decode cX4_sendThroughHose 35 = .ok (.dup, 1) := by decide +kernel
theorem dX4_sendThroughHose_36 : decode cX4_sendThroughHose 36 = .ok (.getfield 154, 3) := by decide +kernel
theorem dX4_sendThroughHose_39 : decode cX4_sendThroughHose 39 = .ok (.aload_n 1, 1) := by decide +kernel
theorem dX4_sendThroughHose_40 : decode cX4_sendThroughHose 40 = .ok (.getfield 98, 3) := by decide +kernel
theorem dX4_sendThroughHose_43 : decode cX4_sendThroughHose 43 = .ok (.aload_n 1, 1) := by decide +kernel
theorem dX4_sendThroughHose_44 : decode cX4_sendThroughHose 44 = .ok (.getfield 73, 3) := by decide +kernel
theorem dX4_sendThroughHose_47 : decode cX4_sendThroughHose 47 = .ok (.aload_n 3, 1) := by decide +kernel
theorem dX4_sendThroughHose_48 : decode cX4_sendThroughHose 48 = .ok (.getfield 73, 3) := by decide +kernel
theorem dX4_sendThroughHose_51 : decode cX4_sendThroughHose 51 = .ok (.invokestatic 183, 3) := by decide +kernel
theorem dX4_sendThroughHose_54 : decode cX4_sendThroughHose 54 = .ok (.invokestatic 186, 3) := by decide +kernel
theorem dX4_sendThroughHose_57 : decode cX4_sendThroughHose 57 = .ok (.iadd, 1) := by decide +kernel
theorem dX4_sendThroughHose_58 : decode cX4_sendThroughHose 58 = .ok (.putfield 154, 3) := by decide +kernel
theorem dX4_sendThroughHose_61 : decode cX4_sendThroughHose 61 = .ok (.goto 45, 3) := by decide +kernel
theorem dX4_sendThroughHose_64 : decode cX4_sendThroughHose 64 = .ok (.aload_n 0, 1) := by decide +kernel
theorem dX4_sendThroughHose_65 : decode cX4_sendThroughHose 65 = .ok (.iload_n 2, 1) := by decide +kernel
theorem dX4_sendThroughHose_66 : decode cX4_sendThroughHose 66 = .ok (.invokevirtual 189, 3) := by decide +kernel
theorem dX4_sendThroughHose_69 : decode cX4_sendThroughHose 69 = .ok (.ifCond .eq 37, 3) := by decide +kernel
theorem dX4_sendThroughHose_72 : decode cX4_sendThroughHose 72 = .ok (.aload_n 0, 1) := by decide +kernel
theorem dX4_sendThroughHose_73 : decode cX4_sendThroughHose 73 = .ok (.getfield 12, 3) := by decide +kernel
theorem dX4_sendThroughHose_76 : decode cX4_sendThroughHose 76 = .ok (.iload_n 2, 1) := by decide +kernel
theorem dX4_sendThroughHose_77 : decode cX4_sendThroughHose 77 = .ok (.invokevirtual 41, 3) := by decide +kernel
theorem dX4_sendThroughHose_80 : decode cX4_sendThroughHose 80 = .ok (.checkcast 32, 3) := by decide +kernel
theorem dX4_sendThroughHose_83 : decode cX4_sendThroughHose 83 = .ok (.astore_n 3, 1) := by decide +kernel
theorem dX4_sendThroughHose_84 : decode cX4_sendThroughHose 84 = .ok (.aload_n 3, 1) := by decide +kernel
theorem dX4_sendThroughHose_85 : decode cX4_sendThroughHose 85 = .ok (.aload_n 1, 1) := by decide +kernel
theorem dX4_sendThroughHose_86 : decode cX4_sendThroughHose 86 = .ok (.getfield 98, 3) := by decide +kernel
theorem dX4_sendThroughHose_89 : decode cX4_sendThroughHose 89 = .ok (.aload_n 1, 1) := by decide +kernel
theorem dX4_sendThroughHose_90 : decode cX4_sendThroughHose 90 = .ok (.getfield 73, 3) := by decide +kernel
theorem dX4_sendThroughHose_93 : decode cX4_sendThroughHose 93 = .ok (.aload_n 3, 1) := by decide +kernel
theorem dX4_sendThroughHose_94 : decode cX4_sendThroughHose 94 = .ok (.getfield 116, 3) := by decide +kernel
theorem dX4_sendThroughHose_97 : decode cX4_sendThroughHose 97 = .ok (.invokestatic 183, 3) := by decide +kernel
theorem dX4_sendThroughHose_100 : decode cX4_sendThroughHose 100 = .ok (.invokestatic 186, 3) := by decide +kernel
theorem dX4_sendThroughHose_103 : decode cX4_sendThroughHose 103 = .ok (.invokevirtual 192, 3) := by decide +kernel
theorem dX4_sendThroughHose_106 : decode cX4_sendThroughHose 106 = .ok (.return_, 1) := by decide +kernel
theorem dX4_arriving_0 : decode cX4_arriving 0 = .ok (.iload_n 0, 1) := by decide +kernel
theorem dX4_arriving_1 : decode cX4_arriving 1 = .ok (.iload_n 0, 1) := by decide +kernel
theorem dX4_arriving_2 : decode cX4_arriving 2 = .ok (.iload_n 1, 1) := by decide +kernel
theorem dX4_arriving_3 : decode cX4_arriving 3 = .ok (.iconst 2, 1) := by decide +kernel
theorem dX4_arriving_4 : decode cX4_arriving 4 = .ok (.idiv, 1) := by decide +kernel
theorem dX4_arriving_5 : decode cX4_arriving 5 = .ok (.imul, 1) := by decide +kernel
theorem dX4_arriving_6 : decode cX4_arriving 6 = .ok (.bipush 10, 2) := by decide +kernel
theorem dX4_arriving_8 : decode cX4_arriving 8 = .ok (.idiv, 1) := by decide +kernel
theorem dX4_arriving_9 : decode cX4_arriving 9 = .ok (.isub, 1) := by decide +kernel
theorem dX4_arriving_10 : decode cX4_arriving 10 = .ok (.ireturn, 1) := by decide +kernel
theorem dX4_catchFire_0 : decode cX4_catchFire 0 = .ok (.iconst 0, 1) := by decide +kernel
theorem dX4_catchFire_1 : decode cX4_catchFire 1 = .ok (.istore_n 1, 1) := by decide +kernel
theorem dX4_catchFire_2 : decode cX4_catchFire 2 = .ok (.iconst 0, 1) := by decide +kernel
theorem dX4_catchFire_3 : decode cX4_catchFire 3 = .ok (.istore_n 2, 1) := by decide +kernel
theorem dX4_catchFire_4 : decode cX4_catchFire 4 = .ok (.iload_n 2, 1) := by decide +kernel
theorem dX4_catchFire_5 : decode cX4_catchFire 5 = .ok (.aload_n 0, 1) := by decide +kernel
theorem dX4_catchFire_6 : decode cX4_catchFire 6 = .ok (.getfield 12, 3) := by decide +kernel
theorem dX4_catchFire_9 : decode cX4_catchFire 9 = .ok (.invokevirtual 28, 3) := by decide +kernel
theorem dX4_catchFire_12 : decode cX4_catchFire 12 = .ok (.if_icmp .ge 54, 3) := by decide +kernel
theorem dX4_catchFire_15 : decode cX4_catchFire 15 = .ok (.aload_n 0, 1) := by decide +kernel
theorem dX4_catchFire_16 : decode cX4_catchFire 16 = .ok (.getfield 12, 3) := by decide +kernel
theorem dX4_catchFire_19 : decode cX4_catchFire 19 = .ok (.iload_n 2, 1) := by decide +kernel
theorem dX4_catchFire_20 : decode cX4_catchFire 20 = .ok (.invokevirtual 41, 3) := by decide +kernel
theorem dX4_catchFire_23 : decode cX4_catchFire 23 = .ok (.checkcast 32, 3) := by decide +kernel
theorem dX4_catchFire_26 : decode cX4_catchFire 26 = .ok (.astore_n 3, 1) := by decide +kernel
theorem dX4_catchFire_27 : decode cX4_catchFire 27 = .ok (.aload_n 3, 1) := by decide +kernel
theorem dX4_catchFire_28 : decode cX4_catchFire 28 = .ok (.getfield 104, 3) := by decide +kernel
theorem dX4_catchFire_31 : decode cX4_catchFire 31 = .ok (.ifCond .ne 29, 3) := by decide +kernel
theorem dX4_catchFire_34 : decode cX4_catchFire 34 = .ok (.aload_n 0, 1) := by decide +kernel
theorem dX4_catchFire_35 : decode cX4_catchFire 35 = .ok (.aload_n 3, 1) := by decide +kernel
theorem dX4_catchFire_36 : decode cX4_catchFire 36 = .ok (.getfield 116, 3) := by decide +kernel
theorem dX4_catchFire_39 : decode cX4_catchFire 39 = .ok (.invokevirtual 196, 3) := by decide +kernel
theorem dX4_catchFire_42 : decode cX4_catchFire 42 = .ok (.aload_n 3, 1) := by decide +kernel
theorem dX4_catchFire_43 : decode cX4_catchFire 43 = .ok (.getfield 151, 3) := by decide +kernel
theorem dX4_catchFire_46 : decode cX4_catchFire 46 = .ok (.isub, 1) := by decide +kernel
theorem dX4_catchFire_47 : decode cX4_catchFire 47 = .ok (.bipush 40, 2) := by decide +kernel
theorem dX4_catchFire_49 : decode cX4_catchFire 49 = .ok (.if_icmp .lt 11, 3) := by decide +kernel
theorem dX4_catchFire_52 : decode cX4_catchFire 52 = .ok (.aload_n 3, 1) := by decide +kernel
theorem dX4_catchFire_53 : decode cX4_catchFire 53 = .ok (.iconst 1, 1) := by decide +kernel
theorem dX4_catchFire_54 : decode cX4_catchFire 54 = .ok (.putfield 104, 3) := by decide +kernel
theorem dX4_catchFire_57 : decode cX4_catchFire 57 = .ok (.iinc 1 1, 3) := by decide +kernel
theorem dX4_catchFire_60 : decode cX4_catchFire 60 = .ok (.iinc 2 1, 3) := by decide +kernel
theorem dX4_catchFire_63 : decode cX4_catchFire 63 = .ok (.goto (-59), 3) := by decide +kernel
theorem dX4_catchFire_66 : decode cX4_catchFire 66 = .ok (.iconst 0, 1) := by decide +kernel
theorem dX4_catchFire_67 : decode cX4_catchFire 67 = .ok (.istore_n 2, 1) := by decide +kernel
theorem dX4_catchFire_68 : decode cX4_catchFire 68 = .ok (.iload_n 2, 1) := by decide +kernel
theorem dX4_catchFire_69 : decode cX4_catchFire 69 = .ok (.aload_n 0, 1) := by decide +kernel
theorem dX4_catchFire_70 : decode cX4_catchFire 70 = .ok (.getfield 12, 3) := by decide +kernel
theorem dX4_catchFire_73 : decode cX4_catchFire 73 = .ok (.invokevirtual 28, 3) := by decide +kernel
theorem dX4_catchFire_76 : decode cX4_catchFire 76 = .ok (.if_icmp .ge 41, 3) := by decide +kernel
theorem dX4_catchFire_79 : decode cX4_catchFire 79 = .ok (.aload_n 0, 1) := by decide +kernel
theorem dX4_catchFire_80 : decode cX4_catchFire 80 = .ok (.getfield 12, 3) := by decide +kernel
theorem dX4_catchFire_83 : decode cX4_catchFire 83 = .ok (.iload_n 2, 1) := by decide +kernel
theorem dX4_catchFire_84 : decode cX4_catchFire 84 = .ok (.invokevirtual 41, 3) := by decide +kernel
theorem dX4_catchFire_87 : decode cX4_catchFire 87 = .ok (.checkcast 32, 3) := by decide +kernel
theorem dX4_catchFire_90 : decode cX4_catchFire 90 = .ok (.astore_n 3, 1) := by decide +kernel
theorem dX4_catchFire_91 : decode cX4_catchFire 91 = .ok (.aload_n 3, 1) := by decide +kernel
theorem dX4_catchFire_92 : decode cX4_catchFire 92 = .ok (.getfield 104, 3) := by decide +kernel
theorem dX4_catchFire_95 : decode cX4_catchFire 95 = .ok (.iconst 1, 1) := by decide +kernel
theorem dX4_catchFire_96 : decode cX4_catchFire 96 = .ok (.if_icmp .ne 15, 3) := by decide +kernel
theorem dX4_catchFire_99 : decode cX4_catchFire 99 = .ok (.aload_n 3, 1) := by decide +kernel
theorem dX4_catchFire_100 : decode cX4_catchFire 100 = .ok (.getfield 121, 3) := by decide +kernel
theorem dX4_catchFire_103 : decode cX4_catchFire 103 = .ok (.ifCond .ne 8, 3) := by decide +kernel
theorem dX4_catchFire_106 : decode cX4_catchFire 106 = .ok (.aload_n 3, 1) := by decide +kernel
theorem dX4_catchFire_107 : decode cX4_catchFire 107 = .ok (.iconst 5, 1) := by decide +kernel
theorem dX4_catchFire_108 : decode cX4_catchFire 108 = .ok (.putfield 121, 3) := by decide +kernel
theorem dX4_catchFire_111 : decode cX4_catchFire 111 = .ok (.iinc 2 1, 3) := by decide +kernel
theorem dX4_catchFire_114 : decode cX4_catchFire 114 = .ok (.goto (-46), 3) := by decide +kernel
theorem dX4_catchFire_117 : decode cX4_catchFire 117 = .ok (.iload_n 1, 1) := by decide +kernel
theorem dX4_catchFire_118 : decode cX4_catchFire 118 = .ok (.ireturn, 1) := by decide +kernel
theorem dX5_init_0 : decode cX5_init 0 = .ok (.aload_n 0, 1) := by decide +kernel
theorem dX5_init_1 : decode cX5_init 1 = .ok (.invokespecial 3, 3) := by decide +kernel
theorem dX5_init_4 : decode cX5_init 4 = .ok (.aload_n 0, 1) := by decide +kernel
theorem dX5_init_5 : decode cX5_init 5 = .ok (.new 9, 3) := by decide +kernel
theorem dX5_init_8 : decode cX5_init 8 = .ok (.dup, 1) := by decide +kernel
theorem dX5_init_9 : decode cX5_init 9 = .ok (.invokespecial 11, 3) := by decide +kernel
theorem dX5_init_12 : decode cX5_init 12 = .ok (.putfield 12, 3) := by decide +kernel
theorem dX5_init_15 : decode cX5_init 15 = .ok (.aload_n 0, 1) := by decide +kernel
theorem dX5_init_16 : decode cX5_init 16 = .ok (.new 16, 3) := by decide +kernel
theorem dX5_init_19 : decode cX5_init 19 = .ok (.dup, 1) := by decide +kernel
theorem dX5_init_20 : decode cX5_init 20 = .ok (.invokespecial 18, 3) := by decide +kernel
theorem dX5_init_23 : decode cX5_init 23 = .ok (.putfield 19, 3) := by decide +kernel
theorem dX5_init_26 : decode cX5_init 26 = .ok (.aload_n 0, 1) := by decide +kernel
theorem dX5_init_27 : decode cX5_init 27 = .ok (.new 16, 3) := by decide +kernel
theorem dX5_init_30 : decode cX5_init 30 = .ok (.dup, 1) := by decide +kernel
theorem dX5_init_31 : decode cX5_init 31 = .ok (.invokespecial 18, 3) := by decide +kernel
theorem dX5_init_34 : decode cX5_init 34 = .ok (.putfield 23, 3) := by decide +kernel
theorem dX5_init_37 : decode cX5_init 37 = .ok (.return_, 1) := by decide +kernel
theorem dX5_build_0 : decode cX5_build 0 = .ok (.iload_n 1, 1) := by decide +kernel
theorem dX5_build_1 : decode cX5_build 1 = .ok (.iload_n 2, 1) := by decide +kernel
theorem dX5_build_2 : decode cX5_build 2 = .ok (.invokestatic 26, 3) := by decide +kernel
theorem dX5_build_5 : decode cX5_build 5 = .ok (.iload_n 3, 1) := by decide +kernel
theorem dX5_build_6 : decode cX5_build 6 = .ok (.iconst 1, 1) := by decide +kernel
theorem dX5_build_7 : decode cX5_build 7 = .ok (.bipush 9, 2) := by decide +kernel
theorem dX5_build_9 : decode cX5_build 9 = .ok (.invokestatic 30, 3) := by decide +kernel
theorem dX5_build_12 : decode cX5_build 12 = .ok (.iload 4, 2) := by decide +kernel
theorem dX5_build_14 : decode cX5_build 14 = .ok (.iconst 1, 1) := by decide +kernel
theorem dX5_build_15 : decode cX5_build 15 = .ok (.bipush 60, 2) := by decide +kernel
theorem dX5_build_17 : decode cX5_build 17 = .ok (.invokestatic 30, 3) := by decide +kernel
theorem dX5_build_20 : decode cX5_build 20 = .ok (.iload_n 1, 1) := by decide +kernel
theorem dX5_build_21 : decode cX5_build 21 = .ok (.iload_n 2, 1) := by decide +kernel
theorem dX5_build_22 : decode cX5_build 22 = .ok (.invokestatic 34, 3) := by decide +kernel
theorem dX5_build_25 : decode cX5_build 25 = .ok (.istore 5, 2) := by decide +kernel
theorem dX5_build_27 : decode cX5_build 27 = .ok (.aload_n 0, 1) := by decide +kernel
theorem dX5_build_28 : decode cX5_build 28 = .ok (.iload 5, 2) := by decide +kernel
theorem dX5_build_30 : decode cX5_build 30 = .ok (.invokevirtual 38, 3) := by decide +kernel
theorem dX5_build_33 : decode cX5_build 33 = .ok (.ifCond .eq 22, 3) := by decide +kernel
theorem dX5_build_36 : decode cX5_build 36 = .ok (.aload_n 0, 1) := by decide +kernel
theorem dX5_build_37 : decode cX5_build 37 = .ok (.getfield 19, 3) := by decide +kernel
theorem dX5_build_40 : decode cX5_build 40 = .ok (.getfield 42, 3) := by decide +kernel
theorem dX5_build_43 : decode cX5_build 43 = .ok (.invokevirtual 46, 3) := by decide +kernel
theorem dX5_build_46 : decode cX5_build 46 = .ok (.bipush 30, 2) := by decide +kernel
theorem dX5_build_48 : decode cX5_build 48 = .ok (.if_icmp .ge 7, 3) := by decide +kernel
theorem dX5_build_51 : decode cX5_build 51 = .ok (.iconst 1, 1) := by decide +kernel
theorem dX5_build_52 : decode cX5_build 52 = .ok (.goto 4, 3) := by decide +kernel
theorem dX5_build_55 : decode cX5_build 55 = .ok (.iconst 0, 1) := by decide +kernel
theorem dX5_build_56 : decode cX5_build 56 = .ok (.invokestatic 52, 3) := by decide +kernel
theorem dX5_build_59 : decode cX5_build 59 = .ok (.aload_n 0, 1) := by decide +kernel
theorem dX5_build_60 : decode cX5_build 60 = .ok (.getfield 19, 3) := by decide +kernel
theorem dX5_build_63 : decode cX5_build 63 = .ok (.getfield 42, 3) := by decide +kernel
theorem dX5_build_66 : decode cX5_build 66 = .ok (.invokevirtual 46, 3) := by decide +kernel
theorem dX5_build_69 : decode cX5_build 69 = .ok (.istore 6, 2) := by decide +kernel
theorem dX5_build_71 : decode cX5_build 71 = .ok (.aload_n 0, 1) := by decide +kernel
theorem dX5_build_72 : decode cX5_build 72 = .ok (.getfield 19, 3) := by decide +kernel
theorem dX5_build_75 : decode cX5_build 75 = .ok (.getfield 42, 3) := by decide +kernel
theorem dX5_build_78 : decode cX5_build 78 = .ok (.new 56, 3) := by decide +kernel
theorem dX5_build_81 : decode cX5_build 81 = .ok (.dup, 1) := by decide +kernel
theorem dX5_build_82 : decode cX5_build 82 = .ok (.iload 5, 2) := by decide +kernel
theorem dX5_build_84 : decode cX5_build 84 = .ok (.iload_n 3, 1) := by decide +kernel
theorem dX5_build_85 : decode cX5_build 85 = .ok (.iload 4, 2) := by decide +kernel
theorem dX5_build_87 : decode cX5_build 87 = .ok (.invokespecial 58, 3) := by decide +kernel
theorem dX5_build_90 : decode cX5_build 90 = .ok (.invokevirtual 60, 3) := by decide +kernel
theorem dX5_build_93 : decode cX5_build 93 = .ok (.pop, 1) := by decide +kernel
theorem dX5_build_94 : decode cX5_build 94 = .ok (.aload_n 0, 1) := by decide +kernel
theorem dX5_build_95 : decode cX5_build 95 = .ok (.getfield 12, 3) := by decide +kernel
theorem dX5_build_98 : decode cX5_build 98 = .ok (.iload 5, 2) := by decide +kernel
theorem dX5_build_100 : decode cX5_build 100 = .ok (.iconst 1, 1) := by decide +kernel
theorem dX5_build_101 : decode cX5_build 101 = .ok (.iload 6, 2) := by decide +kernel
theorem dX5_build_103 : decode cX5_build 103 = .ok (.invokevirtual 64, 3) := by decide +kernel
theorem dX5_build_106 : decode cX5_build 106 = .ok (.iload 6, 2) := by decide +kernel
theorem dX5_build_108 : decode cX5_build 108 = .ok (.ireturn, 1) := by decide +kernel
theorem dX5_dig_0 : decode cX5_dig 0 = .ok (.iload_n 1, 1) := by decide +kernel
theorem dX5_dig_1 : decode cX5_dig 1 = .ok (.iload_n 2, 1) := by decide +kernel
theorem dX5_dig_2 : decode cX5_dig 2 = .ok (.invokestatic 26, 3) := by decide +kernel
theorem dX5_dig_5 : decode cX5_dig 5 = .ok (.iload_n 3, 1) := by decide +kernel
theorem dX5_dig_6 : decode cX5_dig 6 = .ok (.iconst 0, 1) := by decide +kernel
theorem dX5_dig_7 : decode cX5_dig 7 = .ok (.sipush 5000, 3) := by decide +kernel
theorem dX5_dig_10 : decode cX5_dig 10 = .ok (.invokestatic 30, 3) := by decide +kernel
theorem dX5_dig_13 : decode cX5_dig 13 = .ok (.iload_n 1, 1) := by decide +kernel
theorem dX5_dig_14 : decode cX5_dig 14 = .ok (.iload_n 2, 1) := by decide +kernel
theorem dX5_dig_15 : decode cX5_dig 15 = .ok (.invokestatic 34, 3) := by decide +kernel
theorem dX5_dig_18 : decode cX5_dig 18 = .ok (.istore 4, 2) := by decide +kernel
theorem dX5_dig_20 : decode cX5_dig 20 = .ok (.aload_n 0, 1) := by decide +kernel
theorem dX5_dig_21 : decode cX5_dig 21 = .ok (.iload 4, 2) := by decide +kernel
theorem dX5_dig_23 : decode cX5_dig 23 = .ok (.invokevirtual 38, 3) := by decide +kernel
theorem dX5_dig_26 : decode cX5_dig 26 = .ok (.ifCond .eq 22, 3) := by decide +kernel
theorem dX5_dig_29 : decode cX5_dig 29 = .ok (.aload_n 0, 1) := by decide +kernel
theorem dX5_dig_30 : decode cX5_dig 30 = .ok (.getfield 19, 3) := by decide +kernel
theorem dX5_dig_33 : decode cX5_dig 33 = .ok (.getfield 67, 3) := by decide +kernel
theorem dX5_dig_36 : decode cX5_dig 36 = .ok (.invokevirtual 46, 3) := by decide +kernel
theorem dX5_dig_39 : decode cX5_dig 39 = .ok (.bipush 6, 2) := by decide +kernel
theorem dX5_dig_41 : decode cX5_dig 41 = .ok (.if_icmp .ge 7, 3) := by decide +kernel
theorem dX5_dig_44 : decode cX5_dig 44 = .ok (.iconst 1, 1) := by decide +kernel
theorem dX5_dig_45 : decode cX5_dig 45 = .ok (.goto 4, 3) := by decide +kernel
theorem dX5_dig_48 : decode cX5_dig 48 = .ok (.iconst 0, 1) := by decide +kernel
theorem dX5_dig_49 : decode cX5_dig 49 = .ok (.invokestatic 52, 3) := by decide +kernel
theorem dX5_dig_52 : decode cX5_dig 52 = .ok (.aload_n 0, 1) := by decide +kernel
theorem dX5_dig_53 : decode cX5_dig 53 = .ok (.getfield 19, 3) := by decide +kernel
theorem dX5_dig_56 : decode cX5_dig 56 = .ok (.getfield 67, 3) := by decide +kernel
theorem dX5_dig_59 : decode cX5_dig 59 = .ok (.invokevirtual 46, 3) := by decide +kernel
theorem dX5_dig_62 : decode cX5_dig 62 = .ok (.istore 5, 2) := by decide +kernel
theorem dX5_dig_64 : decode cX5_dig 64 = .ok (.aload_n 0, 1) := by decide +kernel
theorem dX5_dig_65 : decode cX5_dig 65 = .ok (.getfield 19, 3) := by decide +kernel
theorem dX5_dig_68 : decode cX5_dig 68 = .ok (.getfield 67, 3) := by decide +kernel
theorem dX5_dig_71 : decode cX5_dig 71 = .ok (.new 70, 3) := by decide +kernel
theorem dX5_dig_74 : decode cX5_dig 74 = .ok (.dup, 1) := by decide +kernel
theorem dX5_dig_75 : decode cX5_dig 75 = .ok (.iload 4, 2) := by decide +kernel
theorem dX5_dig_77 : decode cX5_dig 77 = .ok (.iload_n 3, 1) := by decide +kernel
theorem dX5_dig_78 : decode cX5_dig 78 = .ok (.invokespecial 72, 3) := by decide +kernel
theorem dX5_dig_81 : decode cX5_dig 81 = .ok (.invokevirtual 60, 3) := by decide +kernel
theorem dX5_dig_84 : decode cX5_dig 84 = .ok (.pop, 1) := by decide +kernel
theorem dX5_dig_85 : decode cX5_dig 85 = .ok (.aload_n 0, 1) := by decide +kernel
theorem dX5_dig_86 : decode cX5_dig 86 = .ok (.getfield 12, 3) := by decide +kernel
theorem dX5_dig_89 : decode cX5_dig 89 = .ok (.iload 4, 2) := by decide +kernel
theorem dX5_dig_91 : decode cX5_dig 91 = .ok (.iconst 2, 1) := by decide +kernel
theorem dX5_dig_92 : decode cX5_dig 92 = .ok (.iload 5, 2) := by decide +kernel
theorem dX5_dig_94 : decode cX5_dig 94 = .ok (.invokevirtual 64, 3) := by decide +kernel
theorem dX5_dig_97 : decode cX5_dig 97 = .ok (.iload 5, 2) := by decide +kernel
theorem dX5_dig_99 : decode cX5_dig 99 = .ok (.ireturn, 1) := by decide +kernel
theorem dX5_light_0 : decode cX5_light 0 = .ok (.aload_n 0, 1) := by decide +kernel
theorem dX5_light_1 : decode cX5_light 1 = .ok (.iload_n 1, 1) := by decide +kernel
theorem dX5_light_2 : decode cX5_light 2 = .ok (.invokevirtual 74, 3) := by decide +kernel
theorem dX5_light_5 : decode cX5_light 5 = .ok (.iload_n 2, 1) := by decide +kernel
theorem dX5_light_6 : decode cX5_light 6 = .ok (.iconst 1, 1) := by decide +kernel
theorem dX5_light_7 : decode cX5_light 7 = .ok (.bipush 99, 2) := by decide +kernel
theorem dX5_light_9 : decode cX5_light 9 = .ok (.invokestatic 30, 3) := by decide +kernel
theorem dX5_light_12 : decode cX5_light 12 = .ok (.aload_n 0, 1) := by decide +kernel
theorem dX5_light_13 : decode cX5_light 13 = .ok (.getfield 19, 3) := by decide +kernel
theorem dX5_light_16 : decode cX5_light 16 = .ok (.getfield 42, 3) := by decide +kernel
theorem dX5_light_19 : decode cX5_light 19 = .ok (.iload_n 1, 1) := by decide +kernel
theorem dX5_light_20 : decode cX5_light 20 = .ok (.invokevirtual 78, 3) := by decide +kernel
theorem dX5_light_23 : decode cX5_light 23 = .ok (.checkcast 56, 3) := by decide +kernel
theorem dX5_light_26 : decode cX5_light 26 = .ok (.astore_n 3, 1) := by decide +kernel
theorem dX5_light_27 : decode cX5_light 27 = .ok (.aload_n 3, 1) := by decide +kernel
theorem dX5_light_28 : decode cX5_light 28 = .ok (.getfield 82, 3) := by decide +kernel
theorem dX5_light_31 : decode cX5_light 31 = .ok (.ifCond .ne 7, 3) := by decide +kernel
theorem dX5_light_34 : decode cX5_light 34 = .ok (.iconst 1, 1) := by decide +kernel
theorem dX5_light_35 : decode cX5_light 35 = .ok (.goto 4, 3) := by decide +kernel
theorem dX5_light_38 : decode cX5_light 38 = .ok (.iconst 0, 1) := by decide +kernel
theorem dX5_light_39 : decode cX5_light 39 = .ok (.invokestatic 52, 3) := by decide +kernel
theorem dX5_light_42 : decode cX5_light 42 = .ok (.aload_n 3, 1) := by decide +kernel
theorem dX5_light_43 : decode cX5_light 43 = .ok (.iload_n 2, 1) := by decide +kernel
theorem dX5_light_44 : decode cX5_light 44 = .ok (.invokevirtual 86, 3) := by decide +kernel
theorem dX5_light_47 : decode cX5_light 47 = .ok (.aload_n 0, 1) := by decide +kernel
theorem dX5_light_48 : decode cX5_light 48 = .ok (.getfield 19, 3) := by decide +kernel
theorem dX5_light_51 : decode cX5_light 51 = .ok (.iconst 1, 1) := by decide +kernel
theorem dX5_light_52 : decode cX5_light 52 = .ok (.invokevirtual 89, 3) := by decide +kernel
theorem dX5_light_55 : decode cX5_light 55 = .ok (.ireturn, 1) := by decide +kernel
theorem dX5_cell_0 : decode cX5_cell 0 = .ok (.iload_n 1, 1) := by decide +kernel
theorem dX5_cell_1 : decode cX5_cell 1 = .ok (.iload_n 2, 1) := by decide +kernel
theorem dX5_cell_2 : decode cX5_cell 2 = .ok (.invokestatic 26, 3) := by decide +kernel
theorem dX5_cell_5 : decode cX5_cell 5 = .ok (.iload_n 3, 1) := by decide +kernel
theorem dX5_cell_6 : decode cX5_cell 6 = .ok (.iconst 3, 1) := by decide +kernel
theorem dX5_cell_7 : decode cX5_cell 7 = .ok (.invokestatic 93, 3) := by decide +kernel
theorem dX5_cell_10 : decode cX5_cell 10 = .ok (.iload_n 1, 1) := by decide +kernel
theorem dX5_cell_11 : decode cX5_cell 11 = .ok (.iload_n 2, 1) := by decide +kernel
theorem dX5_cell_12 : decode cX5_cell 12 = .ok (.invokestatic 34, 3) := by decide +kernel
theorem dX5_cell_15 : decode cX5_cell 15 = .ok (.istore 4, 2) := by decide +kernel
theorem dX5_cell_17 : decode cX5_cell 17 = .ok (.iload_n 3, 1) := by decide +kernel
theorem dX5_cell_18 : decode cX5_cell 18 = .ok (.tableswitch 56 0 2 #[26, 36, 46], 26) := by decide +kernel
theorem dX5_cell_44 : decode cX5_cell 44 = .ok (.aload_n 0, 1) := by decide +kernel
theorem dX5_cell_45 : decode cX5_cell 45 = .ok (.getfield 12, 3) := by decide +kernel
theorem dX5_cell_48 : decode cX5_cell 48 = .ok (.iload 4, 2) := by decide +kernel
theorem dX5_cell_50 : decode cX5_cell 50 = .ok (.invokevirtual 96, 3) := by decide +kernel
theorem dX5_cell_53 : decode cX5_cell 53 = .ok (.ireturn, 1) := by decide +kernel
theorem dX5_cell_54 : decode cX5_cell 54 = .ok (.aload_n 0, 1) := by decide +kernel
theorem dX5_cell_55 : decode cX5_cell 55 = .ok (.getfield 12, 3) := by decide +kernel
theorem dX5_cell_58 : decode cX5_cell 58 = .ok (.iload 4, 2) := by decide +kernel
theorem dX5_cell_60 : decode cX5_cell 60 = .ok (.invokevirtual 99, 3) := by decide +kernel
theorem dX5_cell_63 : decode cX5_cell 63 = .ok (.ireturn, 1) := by decide +kernel
theorem dX5_cell_64 : decode cX5_cell 64 = .ok (.aload_n 0, 1) := by decide +kernel
theorem dX5_cell_65 : decode cX5_cell 65 = .ok (.getfield 19, 3) := by decide +kernel
theorem dX5_cell_68 : decode cX5_cell 68 = .ok (.iload 4, 2) := by decide +kernel
theorem dX5_cell_70 : decode cX5_cell 70 = .ok (.invokevirtual 102, 3) := by decide +kernel
theorem dX5_cell_73 : decode cX5_cell 73 = .ok (.ireturn, 1) := by decide +kernel
theorem dX5_cell_74 : decode cX5_cell 74 = .ok (.aload_n 0, 1) := by decide +kernel
theorem dX5_cell_75 : decode cX5_cell 75 = .ok (.getfield 19, 3) := by decide +kernel
theorem dX5_cell_78 : decode cX5_cell 78 = .ok (.iload 4, 2) := by decide +kernel
theorem dX5_cell_80 : decode cX5_cell 80 = .ok (.invokevirtual 105, 3) := by decide +kernel
theorem dX5_cell_83 : decode cX5_cell 83 = .ok (.ireturn, 1) := by decide +kernel
theorem dX5_house_0 : decode cX5_house 0 = .ok (.aload_n 0, 1) := by decide +kernel
theorem dX5_house_1 : decode cX5_house 1 = .ok (.iload_n 1, 1) := by decide +kernel
theorem dX5_house_2 : decode cX5_house 2 = .ok (.invokevirtual 74, 3) := by decide +kernel
theorem dX5_house_5 : decode cX5_house 5 = .ok (.iload_n 2, 1) := by decide +kernel
theorem dX5_house_6 : decode cX5_house 6 = .ok (.bipush 6, 2) := by decide +kernel
theorem dX5_house_8 : decode cX5_house 8 = .ok (.invokestatic 93, 3) := by decide +kernel
theorem dX5_house_11 : decode cX5_house 11 = .ok (.aload_n 0, 1) := by decide +kernel
theorem dX5_house_12 : decode cX5_house 12 = .ok (.getfield 19, 3) := by decide +kernel
theorem dX5_house_15 : decode cX5_house 15 = .ok (.getfield 42, 3) := by decide +kernel
theorem dX5_house_18 : decode cX5_house 18 = .ok (.iload_n 1, 1) := by decide +kernel
theorem dX5_house_19 : decode cX5_house 19 = .ok (.invokevirtual 78, 3) := by decide +kernel
theorem dX5_house_22 : decode cX5_house 22 = .ok (.checkcast 56, 3) := by decide +kernel
theorem dX5_house_25 : decode cX5_house 25 = .ok (.iload_n 2, 1) := by decide +kernel
theorem dX5_house_26 : decode cX5_house 26 = .ok (.invokevirtual 108, 3) := by decide +kernel
theorem dX5_house_29 : decode cX5_house 29 = .ok (.ireturn, 1) := by decide +kernel
theorem dX5_addEngine_0 : decode cX5_addEngine 0 = .ok (.iload_n 1, 1) := by decide +kernel
theorem dX5_addEngine_1 : decode cX5_addEngine 1 = .ok (.iload_n 2, 1) := by decide +kernel
theorem dX5_addEngine_2 : decode cX5_addEngine 2 = .ok (.invokestatic 26, 3) := by decide +kernel
theorem dX5_addEngine_5 : decode cX5_addEngine 5 = .ok (.iload_n 3, 1) := by decide +kernel
theorem dX5_addEngine_6 : decode cX5_addEngine 6 = .ok (.iconst 1, 1) := by decide +kernel
theorem dX5_addEngine_7 : decode cX5_addEngine 7 = .ok (.iconst 4, 1) := by decide +kernel
theorem dX5_addEngine_8 : decode cX5_addEngine 8 = .ok (.invokestatic 30, 3) := by decide +kernel
theorem dX5_addEngine_11 : decode cX5_addEngine 11 = .ok (.iload 4, 2) := by decide +kernel
theorem dX5_addEngine_13 : decode cX5_addEngine 13 = .ok (.iconst 1, 1) := by decide +kernel
theorem dX5_addEngine_14 : decode cX5_addEngine 14 = .ok (.bipush 20, 2) := by decide +kernel
theorem dX5_addEngine_16 : decode cX5_addEngine 16 = .ok (.invokestatic 30, 3) := by decide +kernel
theorem dX5_addEngine_19 : decode cX5_addEngine 19 = .ok (.iload_n 1, 1) := by decide +kernel
theorem dX5_addEngine_20 : decode cX5_addEngine 20 = .ok (.iload_n 2, 1) := by decide +kernel
theorem dX5_addEngine_21 : decode cX5_addEngine 21 = .ok (.invokestatic 34, 3) := by decide +kernel
theorem dX5_addEngine_24 : decode cX5_addEngine 24 = .ok (.istore 5, 2) := by decide +kernel
theorem dX5_addEngine_26 : decode cX5_addEngine 26 = .ok (.aload_n 0, 1) := by decide +kernel
theorem dX5_addEngine_27 : decode cX5_addEngine 27 = .ok (.getfield 12, 3) := by decide +kernel
theorem dX5_addEngine_30 : decode cX5_addEngine 30 = .ok (.iload 5, 2) := by decide +kernel
theorem dX5_addEngine_32 : decode cX5_addEngine 32 = .ok (.invokevirtual 111, 3) := by decide +kernel
theorem dX5_addEngine_35 : decode cX5_addEngine 35 = .ok (.ifCond .eq 22, 3) := by decide +kernel
theorem dX5_addEngine_38 : decode cX5_addEngine 38 = .ok (.aload_n 0, 1) := by decide +kernel
theorem dX5_addEngine_39 : decode cX5_addEngine 39 = .ok (.getfield 19, 3) := by decide +kernel
theorem dX5_addEngine_42 : decode cX5_addEngine 42 = .ok (.getfield 114, 3) := by decide +kernel
theorem dX5_addEngine_45 : decode cX5_addEngine 45 = .ok (.invokevirtual 46, 3) := by decide +kernel
theorem dX5_addEngine_48 : decode cX5_addEngine 48 = .ok (.bipush 6, 2) := by decide +kernel
theorem dX5_addEngine_50 : decode cX5_addEngine 50 = .ok (.if_icmp .ge 7, 3) := by decide +kernel
theorem dX5_addEngine_53 : decode cX5_addEngine 53 = .ok (.iconst 1, 1) := by decide +kernel
theorem dX5_addEngine_54 : decode cX5_addEngine 54 = .ok (.goto 4, 3) := by decide +kernel
theorem dX5_addEngine_57 : decode cX5_addEngine 57 = .ok (.iconst 0, 1) := by decide +kernel
theorem dX5_addEngine_58 : decode cX5_addEngine 58 = .ok (.invokestatic 52, 3) := by decide +kernel
theorem dX5_addEngine_61 : decode cX5_addEngine 61 = .ok (.aload_n 0, 1) := by decide +kernel
theorem dX5_addEngine_62 : decode cX5_addEngine 62 = .ok (.getfield 19, 3) := by decide +kernel
theorem dX5_addEngine_65 : decode cX5_addEngine 65 = .ok (.getfield 114, 3) := by decide +kernel
theorem dX5_addEngine_68 : decode cX5_addEngine 68 = .ok (.invokevirtual 46, 3) := by decide +kernel
theorem dX5_addEngine_71 : decode cX5_addEngine 71 = .ok (.istore 6, 2) := by decide +kernel
theorem dX5_addEngine_73 : decode cX5_addEngine 73 = .ok (.aload_n 0, 1) := by decide +kernel
theorem dX5_addEngine_74 : decode cX5_addEngine 74 = .ok (.getfield 19, 3) := by decide +kernel
theorem dX5_addEngine_77 : decode cX5_addEngine 77 = .ok (.getfield 114, 3) := by decide +kernel
theorem dX5_addEngine_80 : decode cX5_addEngine 80 = .ok (.new 117, 3) := by decide +kernel
theorem dX5_addEngine_83 : decode cX5_addEngine 83 = .ok (.dup, 1) := by decide +kernel
theorem dX5_addEngine_84 : decode cX5_addEngine 84 = .ok (.iload 5, 2) := by decide +kernel
theorem dX5_addEngine_86 : decode cX5_addEngine 86 = .ok (.iload_n 3, 1) := by decide +kernel
theorem dX5_addEngine_87 : decode cX5_addEngine 87 = .ok (.iload 4, 2) := by decide +kernel
theorem dX5_addEngine_89 : decode cX5_addEngine 89 = .ok (.invokespecial 119, 3) := by decide +kernel
theorem dX5_addEngine_92 : decode cX5_addEngine 92 = .ok (.invokevirtual 60, 3) := by decide +kernel
theorem dX5_addEngine_95 : decode cX5_addEngine 95 = .ok (.pop, 1) := by decide +kernel
theorem dX5_addEngine_96 : decode cX5_addEngine 96 = .ok (.iload 6, 2) := by decide +kernel
theorem dX5_addEngine_98 : decode cX5_addEngine 98 = .ok (.ireturn, 1) := by decide +kernel
theorem dX5_stoke_0 : decode cX5_stoke 0 = .ok (.aload_n 0, 1) := by decide +kernel
theorem dX5_stoke_1 : decode cX5_stoke 1 = .ok (.iload_n 1, 1) := by decide +kernel
end
section
theorem dX5_stoke_2 : decode cX5_stoke 2 = .ok (.invokevirtual 120, 3) := by decide +kernel
theorem dX5_stoke_5 : decode cX5_stoke 5 = .ok (.iload_n 2, 1) := by decide +kernel
theorem dX5_stoke_6 : decode cX5_stoke 6 = .ok (.iconst 1, 1) := by decide +kernel
theorem dX5_stoke_7 : decode cX5_stoke 7 = .ok (.bipush 100, 2) := by decide +kernel
theorem dX5_stoke_9 : decode cX5_stoke 9 = .ok (.invokestatic 30, 3) := by decide +kernel
theorem dX5_stoke_12 : decode cX5_stoke 12 = .ok (.aload_n 0, 1) := by decide +kernel
theorem dX5_stoke_13 : decode cX5_stoke 13 = .ok (.getfield 19, 3) := by decide +kernel
theorem dX5_stoke_16 : decode cX5_stoke 16 = .ok (.getfield 114, 3) := by decide +kernel
theorem dX5_stoke_19 : decode cX5_stoke 19 = .ok (.iload_n 1, 1) := by decide +kernel
theorem dX5_stoke_20 : decode cX5_stoke 20 = .ok (.invokevirtual 78, 3) := by decide +kernel
theorem dX5_stoke_23 : decode cX5_stoke 23 = .ok (.checkcast 117, 3) := by decide +kernel
theorem dX5_stoke_26 : decode cX5_stoke 26 = .ok (.astore_n 3, 1) := by decide +kernel
theorem dX5_stoke_27 : decode cX5_stoke 27 = .ok (.aload_n 3, 1) := by decide +kernel
theorem dX5_stoke_28 : decode cX5_stoke 28 = .ok (.getfield 123, 3) := by decide +kernel
theorem dX5_stoke_31 : decode cX5_stoke 31 = .ok (.iload_n 2, 1) := by decide +kernel
theorem dX5_stoke_32 : decode cX5_stoke 32 = .ok (.iadd, 1) := by decide +kernel
theorem dX5_stoke_33 : decode cX5_stoke 33 = .ok (.sipush 200, 3) := by decide +kernel
theorem dX5_stoke_36 : decode cX5_stoke 36 = .ok (.if_icmp .gt 7, 3) := by decide +kernel
theorem dX5_stoke_39 : decode cX5_stoke 39 = .ok (.iconst 1, 1) := by decide +kernel
theorem dX5_stoke_40 : decode cX5_stoke 40 = .ok (.goto 4, 3) := by decide +kernel
theorem dX5_stoke_43 : decode cX5_stoke 43 = .ok (.iconst 0, 1) := by decide +kernel
theorem dX5_stoke_44 : decode cX5_stoke 44 = .ok (.invokestatic 52, 3) := by decide +kernel
theorem dX5_stoke_47 : decode cX5_stoke 47 = .ok (.aload_n 3, 1) := by decide +kernel
theorem dX5_stoke_48 : decode cX5_stoke 48 = .ok (.dup, 1) := by decide +kernel
theorem dX5_stoke_49 : decode cX5_stoke 49 = .ok (.getfield 123, 3) := by decide +kernel
theorem dX5_stoke_52 : decode cX5_stoke 52 = .ok (.iload_n 2, 1) := by decide +kernel
theorem dX5_stoke_53 : decode cX5_stoke 53 = .ok (.iadd, 1) := by decide +kernel
theorem dX5_stoke_54 : decode cX5_stoke 54 = .ok (.putfield 123, 3) := by decide +kernel
theorem dX5_stoke_57 : decode cX5_stoke 57 = .ok (.aload_n 3, 1) := by decide +kernel
theorem dX5_stoke_58 : decode cX5_stoke 58 = .ok (.getfield 123, 3) := by decide +kernel
theorem dX5_stoke_61 : decode cX5_stoke 61 = .ok (.ireturn, 1) := by decide +kernel
theorem dX5_drive_0 : decode cX5_drive 0 = .ok (.aload_n 0, 1) := by decide +kernel
theorem dX5_drive_1 : decode cX5_drive 1 = .ok (.iload_n 1, 1) := by decide +kernel
theorem dX5_drive_2 : decode cX5_drive 2 = .ok (.invokevirtual 120, 3) := by decide +kernel
theorem dX5_drive_5 : decode cX5_drive 5 = .ok (.iload_n 2, 1) := by decide +kernel
theorem dX5_drive_6 : decode cX5_drive 6 = .ok (.iload_n 3, 1) := by decide +kernel
theorem dX5_drive_7 : decode cX5_drive 7 = .ok (.invokestatic 26, 3) := by decide +kernel
theorem dX5_drive_10 : decode cX5_drive 10 = .ok (.aload_n 0, 1) := by decide +kernel
theorem dX5_drive_11 : decode cX5_drive 11 = .ok (.getfield 19, 3) := by decide +kernel
theorem dX5_drive_14 : decode cX5_drive 14 = .ok (.getfield 114, 3) := by decide +kernel
theorem dX5_drive_17 : decode cX5_drive 17 = .ok (.iload_n 1, 1) := by decide +kernel
theorem dX5_drive_18 : decode cX5_drive 18 = .ok (.invokevirtual 78, 3) := by decide +kernel
theorem dX5_drive_21 : decode cX5_drive 21 = .ok (.checkcast 117, 3) := by decide +kernel
theorem dX5_drive_24 : decode cX5_drive 24 = .ok (.astore 4, 2) := by decide +kernel
theorem dX5_drive_26 : decode cX5_drive 26 = .ok (.iload_n 2, 1) := by decide +kernel
theorem dX5_drive_27 : decode cX5_drive 27 = .ok (.iload_n 3, 1) := by decide +kernel
theorem dX5_drive_28 : decode cX5_drive 28 = .ok (.invokestatic 34, 3) := by decide +kernel
theorem dX5_drive_31 : decode cX5_drive 31 = .ok (.istore 5, 2) := by decide +kernel
theorem dX5_drive_33 : decode cX5_drive 33 = .ok (.aload 4, 2) := by decide +kernel
theorem dX5_drive_35 : decode cX5_drive 35 = .ok (.invokevirtual 126, 3) := by decide +kernel
theorem dX5_drive_38 : decode cX5_drive 38 = .ok (.ifCond .eq 17, 3) := by decide +kernel
theorem dX5_drive_41 : decode cX5_drive 41 = .ok (.aload 4, 2) := by decide +kernel
theorem dX5_drive_43 : decode cX5_drive 43 = .ok (.getfield 130, 3) := by decide +kernel
theorem dX5_drive_46 : decode cX5_drive 46 = .ok (.iload 5, 2) := by decide +kernel
theorem dX5_drive_48 : decode cX5_drive 48 = .ok (.if_icmp .eq 7, 3) := by decide +kernel
theorem dX5_drive_51 : decode cX5_drive 51 = .ok (.iconst 1, 1) := by decide +kernel
theorem dX5_drive_52 : decode cX5_drive 52 = .ok (.goto 4, 3) := by decide +kernel
theorem dX5_drive_55 : decode cX5_drive 55 = .ok (.iconst 0, 1) := by decide +kernel
theorem dX5_drive_56 : decode cX5_drive 56 = .ok (.invokestatic 52, 3) := by decide +kernel
theorem dX5_drive_59 : decode cX5_drive 59 = .ok (.aload_n 0, 1) := by decide +kernel
theorem dX5_drive_60 : decode cX5_drive 60 = .ok (.getfield 12, 3) := by decide +kernel
theorem dX5_drive_63 : decode cX5_drive 63 = .ok (.aload 4, 2) := by decide +kernel
theorem dX5_drive_65 : decode cX5_drive 65 = .ok (.getfield 130, 3) := by decide +kernel
theorem dX5_drive_68 : decode cX5_drive 68 = .ok (.iload 5, 2) := by decide +kernel
theorem dX5_drive_70 : decode cX5_drive 70 = .ok (.invokevirtual 133, 3) := by decide +kernel
theorem dX5_drive_73 : decode cX5_drive 73 = .ok (.istore 6, 2) := by decide +kernel
theorem dX5_drive_75 : decode cX5_drive 75 = .ok (.iload 6, 2) := by decide +kernel
theorem dX5_drive_77 : decode cX5_drive 77 = .ok (.iconst (-1), 1) := by decide +kernel
theorem dX5_drive_78 : decode cX5_drive 78 = .ok (.if_icmp .eq 7, 3) := by decide +kernel
theorem dX5_drive_81 : decode cX5_drive 81 = .ok (.iconst 1, 1) := by decide +kernel
theorem dX5_drive_82 : decode cX5_drive 82 = .ok (.goto 4, 3) := by decide +kernel
theorem dX5_drive_85 : decode cX5_drive 85 = .ok (.iconst 0, 1) := by decide +kernel
theorem dX5_drive_86 : decode cX5_drive 86 = .ok (.invokestatic 52, 3) := by decide +kernel
theorem dX5_drive_89 : decode cX5_drive 89 = .ok (.aload_n 0, 1) := by decide +kernel
theorem dX5_drive_90 : decode cX5_drive 90 = .ok (.getfield 19, 3) := by decide +kernel
theorem dX5_drive_93 : decode cX5_drive 93 = .ok (.iload_n 1, 1) := by decide +kernel
theorem dX5_drive_94 : decode cX5_drive 94 = .ok (.invokevirtual 136, 3) := by decide +kernel
theorem dX5_drive_97 : decode cX5_drive 97 = .ok (.aload 4, 2) := by decide +kernel
theorem dX5_drive_99 : decode cX5_drive 99 = .ok (.iload 5, 2) := by decide +kernel
theorem dX5_drive_101 : decode cX5_drive 101 = .ok (.iload 6, 2) := by decide +kernel
theorem dX5_drive_103 : decode cX5_drive 103 = .ok (.invokevirtual 139, 3) := by decide +kernel
theorem dX5_drive_106 : decode cX5_drive 106 = .ok (.aload 4, 2) := by decide +kernel
theorem dX5_drive_108 : decode cX5_drive 108 = .ok (.getfield 142, 3) := by decide +kernel
theorem dX5_drive_111 : decode cX5_drive 111 = .ok (.ireturn, 1) := by decide +kernel
theorem dX5_relay_0 : decode cX5_relay 0 = .ok (.aload_n 0, 1) := by decide +kernel
theorem dX5_relay_1 : decode cX5_relay 1 = .ok (.iload_n 1, 1) := by decide +kernel
theorem dX5_relay_2 : decode cX5_relay 2 = .ok (.invokevirtual 120, 3) := by decide +kernel
theorem dX5_relay_5 : decode cX5_relay 5 = .ok (.aload_n 0, 1) := by decide +kernel
theorem dX5_relay_6 : decode cX5_relay 6 = .ok (.iload_n 2, 1) := by decide +kernel
theorem dX5_relay_7 : decode cX5_relay 7 = .ok (.invokevirtual 120, 3) := by decide +kernel
theorem dX5_relay_10 : decode cX5_relay 10 = .ok (.aload_n 0, 1) := by decide +kernel
theorem dX5_relay_11 : decode cX5_relay 11 = .ok (.getfield 19, 3) := by decide +kernel
theorem dX5_relay_14 : decode cX5_relay 14 = .ok (.getfield 114, 3) := by decide +kernel
theorem dX5_relay_17 : decode cX5_relay 17 = .ok (.iload_n 1, 1) := by decide +kernel
theorem dX5_relay_18 : decode cX5_relay 18 = .ok (.invokevirtual 78, 3) := by decide +kernel
theorem dX5_relay_21 : decode cX5_relay 21 = .ok (.checkcast 117, 3) := by decide +kernel
theorem dX5_relay_24 : decode cX5_relay 24 = .ok (.astore_n 3, 1) := by decide +kernel
theorem dX5_relay_25 : decode cX5_relay 25 = .ok (.aload_n 0, 1) := by decide +kernel
theorem dX5_relay_26 : decode cX5_relay 26 = .ok (.getfield 19, 3) := by decide +kernel
theorem dX5_relay_29 : decode cX5_relay 29 = .ok (.getfield 114, 3) := by decide +kernel
theorem dX5_relay_32 : decode cX5_relay 32 = .ok (.iload_n 2, 1) := by decide +kernel
theorem dX5_relay_33 : decode cX5_relay 33 = .ok (.invokevirtual 78, 3) := by decide +kernel
theorem dX5_relay_36 : decode cX5_relay 36 = .ok (.checkcast 117, 3) := by decide +kernel
theorem dX5_relay_39 : decode cX5_relay 39 = .ok (.astore 4, 2) := by decide +kernel
theorem dX5_relay_41 : decode cX5_relay 41 = .ok (.aload_n 3, 1) := by decide +kernel
theorem dX5_relay_42 : decode cX5_relay 42 = .ok (.getfield 130, 3) := by decide +kernel
theorem dX5_relay_45 : decode cX5_relay 45 = .ok (.aload 4, 2) := by decide +kernel
theorem dX5_relay_47 : decode cX5_relay 47 = .ok (.getfield 130, 3) := by decide +kernel
theorem dX5_relay_50 : decode cX5_relay 50 = .ok (.invokestatic 145, 3) := by decide +kernel
theorem dX5_relay_53 : decode cX5_relay 53 = .ok (.istore 5, 2) := by decide +kernel
theorem dX5_relay_55 : decode cX5_relay 55 = .ok (.aload_n 3, 1) := by decide +kernel
theorem dX5_relay_56 : decode cX5_relay 56 = .ok (.invokevirtual 126, 3) := by decide +kernel
theorem dX5_relay_59 : decode cX5_relay 59 = .ok (.ifCond .eq 22, 3) := by decide +kernel
theorem dX5_relay_62 : decode cX5_relay 62 = .ok (.aload 4, 2) := by decide +kernel
theorem dX5_relay_64 : decode cX5_relay 64 = .ok (.invokevirtual 126, 3) := by decide +kernel
theorem dX5_relay_67 : decode cX5_relay 67 = .ok (.ifCond .eq 14, 3) := by decide +kernel
theorem dX5_relay_70 : decode cX5_relay 70 = .ok (.iload 5, 2) := by decide +kernel
theorem dX5_relay_72 : decode cX5_relay 72 = .ok (.bipush 6, 2) := by decide +kernel
theorem dX5_relay_74 : decode cX5_relay 74 = .ok (.if_icmp .gt 7, 3) := by decide +kernel
theorem dX5_relay_77 : decode cX5_relay 77 = .ok (.iconst 1, 1) := by decide +kernel
theorem dX5_relay_78 : decode cX5_relay 78 = .ok (.goto 4, 3) := by decide +kernel
theorem dX5_relay_81 : decode cX5_relay 81 = .ok (.iconst 0, 1) := by decide +kernel
theorem dX5_relay_82 : decode cX5_relay 82 = .ok (.invokestatic 52, 3) := by decide +kernel
theorem dX5_relay_85 : decode cX5_relay 85 = .ok (.aload_n 0, 1) := by decide +kernel
theorem dX5_relay_86 : decode cX5_relay 86 = .ok (.getfield 19, 3) := by decide +kernel
theorem dX5_relay_89 : decode cX5_relay 89 = .ok (.iload_n 2, 1) := by decide +kernel
theorem dX5_relay_90 : decode cX5_relay 90 = .ok (.iload_n 1, 1) := by decide +kernel
theorem dX5_relay_91 : decode cX5_relay 91 = .ok (.invokevirtual 148, 3) := by decide +kernel
theorem dX5_relay_94 : decode cX5_relay 94 = .ok (.ifCond .ne 7, 3) := by decide +kernel
theorem dX5_relay_97 : decode cX5_relay 97 = .ok (.iconst 1, 1) := by decide +kernel
theorem dX5_relay_98 : decode cX5_relay 98 = .ok (.goto 4, 3) := by decide +kernel
theorem dX5_relay_101 : decode cX5_relay 101 = .ok (.iconst 0, 1) := by decide +kernel
theorem dX5_relay_102 : decode cX5_relay 102 = .ok (.invokestatic 52, 3) := by decide +kernel
theorem dX5_relay_105 : decode cX5_relay 105 = .ok (.aload_n 3, 1) := by decide +kernel
theorem dX5_relay_106 : decode cX5_relay 106 = .ok (.iload_n 2, 1) := by decide +kernel
theorem dX5_relay_107 : decode cX5_relay 107 = .ok (.putfield 152, 3) := by decide +kernel
theorem dX5_relay_110 : decode cX5_relay 110 = .ok (.iload 5, 2) := by decide +kernel
theorem dX5_relay_112 : decode cX5_relay 112 = .ok (.ireturn, 1) := by decide +kernel
theorem dX5_aim_0 : decode cX5_aim 0 = .ok (.aload_n 0, 1) := by decide +kernel
theorem dX5_aim_1 : decode cX5_aim 1 = .ok (.iload_n 1, 1) := by decide +kernel
theorem dX5_aim_2 : decode cX5_aim 2 = .ok (.invokevirtual 120, 3) := by decide +kernel
theorem dX5_aim_5 : decode cX5_aim 5 = .ok (.aload_n 0, 1) := by decide +kernel
theorem dX5_aim_6 : decode cX5_aim 6 = .ok (.iload_n 2, 1) := by decide +kernel
theorem dX5_aim_7 : decode cX5_aim 7 = .ok (.invokevirtual 74, 3) := by decide +kernel
theorem dX5_aim_10 : decode cX5_aim 10 = .ok (.aload_n 0, 1) := by decide +kernel
theorem dX5_aim_11 : decode cX5_aim 11 = .ok (.getfield 19, 3) := by decide +kernel
theorem dX5_aim_14 : decode cX5_aim 14 = .ok (.getfield 114, 3) := by decide +kernel
theorem dX5_aim_17 : decode cX5_aim 17 = .ok (.iload_n 1, 1) := by decide +kernel
theorem dX5_aim_18 : decode cX5_aim 18 = .ok (.invokevirtual 78, 3) := by decide +kernel
theorem dX5_aim_21 : decode cX5_aim 21 = .ok (.checkcast 117, 3) := by decide +kernel
theorem dX5_aim_24 : decode cX5_aim 24 = .ok (.astore_n 3, 1) := by decide +kernel
theorem dX5_aim_25 : decode cX5_aim 25 = .ok (.aload_n 3, 1) := by decide +kernel
theorem dX5_aim_26 : decode cX5_aim 26 = .ok (.getfield 130, 3) := by decide +kernel
theorem dX5_aim_29 : decode cX5_aim 29 = .ok (.aload_n 0, 1) := by decide +kernel
theorem dX5_aim_30 : decode cX5_aim 30 = .ok (.getfield 19, 3) := by decide +kernel
theorem dX5_aim_33 : decode cX5_aim 33 = .ok (.getfield 42, 3) := by decide +kernel
theorem dX5_aim_36 : decode cX5_aim 36 = .ok (.iload_n 2, 1) := by decide +kernel
theorem dX5_aim_37 : decode cX5_aim 37 = .ok (.invokevirtual 78, 3) := by decide +kernel
theorem dX5_aim_40 : decode cX5_aim 40 = .ok (.checkcast 56, 3) := by decide +kernel
theorem dX5_aim_43 : decode cX5_aim 43 = .ok (.getfield 155, 3) := by decide +kernel
theorem dX5_aim_46 : decode cX5_aim 46 = .ok (.invokestatic 145, 3) := by decide +kernel
theorem dX5_aim_49 : decode cX5_aim 49 = .ok (.istore 4, 2) := by decide +kernel
theorem dX5_aim_51 : decode cX5_aim 51 = .ok (.aload_n 3, 1) := by decide +kernel
theorem dX5_aim_52 : decode cX5_aim 52 = .ok (.invokevirtual 126, 3) := by decide +kernel
theorem dX5_aim_55 : decode cX5_aim 55 = .ok (.ifCond .eq 14, 3) := by decide +kernel
theorem dX5_aim_58 : decode cX5_aim 58 = .ok (.iload 4, 2) := by decide +kernel
theorem dX5_aim_60 : decode cX5_aim 60 = .ok (.bipush 6, 2) := by decide +kernel
theorem dX5_aim_62 : decode cX5_aim 62 = .ok (.if_icmp .gt 7, 3) := by decide +kernel
theorem dX5_aim_65 : decode cX5_aim 65 = .ok (.iconst 1, 1) := by decide +kernel
theorem dX5_aim_66 : decode cX5_aim 66 = .ok (.goto 4, 3) := by decide +kernel
theorem dX5_aim_69 : decode cX5_aim 69 = .ok (.iconst 0, 1) := by decide +kernel
theorem dX5_aim_70 : decode cX5_aim 70 = .ok (.invokestatic 52, 3) := by decide +kernel
theorem dX5_aim_73 : decode cX5_aim 73 = .ok (.aload_n 3, 1) := by decide +kernel
theorem dX5_aim_74 : decode cX5_aim 74 = .ok (.bipush 100, 2) := by decide +kernel
theorem dX5_aim_76 : decode cX5_aim 76 = .ok (.iload_n 2, 1) := by decide +kernel
theorem dX5_aim_77 : decode cX5_aim 77 = .ok (.iadd, 1) := by decide +kernel
theorem dX5_aim_78 : decode cX5_aim 78 = .ok (.putfield 152, 3) := by decide +kernel
theorem dX5_aim_81 : decode cX5_aim 81 = .ok (.iload 4, 2) := by decide +kernel
theorem dX5_aim_83 : decode cX5_aim 83 = .ok (.ireturn, 1) := by decide +kernel
theorem dX5_takeUp_0 : decode cX5_takeUp 0 = .ok (.aload_n 0, 1) := by decide +kernel
theorem dX5_takeUp_1 : decode cX5_takeUp 1 = .ok (.iload_n 1, 1) := by decide +kernel
theorem dX5_takeUp_2 : decode cX5_takeUp 2 = .ok (.invokevirtual 120, 3) := by decide +kernel
theorem dX5_takeUp_5 : decode cX5_takeUp 5 = .ok (.aload_n 0, 1) := by decide +kernel
theorem dX5_takeUp_6 : decode cX5_takeUp 6 = .ok (.getfield 19, 3) := by decide +kernel
theorem dX5_takeUp_9 : decode cX5_takeUp 9 = .ok (.getfield 114, 3) := by decide +kernel
theorem dX5_takeUp_12 : decode cX5_takeUp 12 = .ok (.iload_n 1, 1) := by decide +kernel
theorem dX5_takeUp_13 : decode cX5_takeUp 13 = .ok (.invokevirtual 78, 3) := by decide +kernel
theorem dX5_takeUp_16 : decode cX5_takeUp 16 = .ok (.checkcast 117, 3) := by decide +kernel
theorem dX5_takeUp_19 : decode cX5_takeUp 19 = .ok (.astore_n 2, 1) := by decide +kernel
theorem dX5_takeUp_20 : decode cX5_takeUp 20 = .ok (.aload_n 2, 1) := by decide +kernel
theorem dX5_takeUp_21 : decode cX5_takeUp 21 = .ok (.getfield 152, 3) := by decide +kernel
theorem dX5_takeUp_24 : decode cX5_takeUp 24 = .ok (.iconst (-1), 1) := by decide +kernel
theorem dX5_takeUp_25 : decode cX5_takeUp 25 = .ok (.if_icmp .eq 7, 3) := by decide +kernel
theorem dX5_takeUp_28 : decode cX5_takeUp 28 = .ok (.iconst 1, 1) := by decide +kernel
theorem dX5_takeUp_29 : decode cX5_takeUp 29 = .ok (.goto 4, 3) := by decide +kernel
theorem dX5_takeUp_32 : decode cX5_takeUp 32 = .ok (.iconst 0, 1) := by decide +kernel
theorem dX5_takeUp_33 : decode cX5_takeUp 33 = .ok (.istore_n 3, 1) := by decide +kernel
theorem dX5_takeUp_34 : decode cX5_takeUp 34 = .ok (.aload_n 2, 1) := by decide +kernel
theorem dX5_takeUp_35 : decode cX5_takeUp 35 = .ok (.iconst (-1), 1) := by decide +kernel
theorem dX5_takeUp_36 : decode cX5_takeUp 36 = .ok (.putfield 152, 3) := by decide +kernel
theorem dX5_takeUp_39 : decode cX5_takeUp 39 = .ok (.iload_n 3, 1) := by decide +kernel
theorem dX5_takeUp_40 : decode cX5_takeUp 40 = .ok (.ireturn, 1) := by decide +kernel
theorem dX5_engine_0 : decode cX5_engine 0 = .ok (.aload_n 0, 1) := by decide +kernel
theorem dX5_engine_1 : decode cX5_engine 1 = .ok (.iload_n 1, 1) := by decide +kernel
theorem dX5_engine_2 : decode cX5_engine 2 = .ok (.invokevirtual 120, 3) := by decide +kernel
theorem dX5_engine_5 : decode cX5_engine 5 = .ok (.iload_n 2, 1) := by decide +kernel
theorem dX5_engine_6 : decode cX5_engine 6 = .ok (.bipush 9, 2) := by decide +kernel
theorem dX5_engine_8 : decode cX5_engine 8 = .ok (.invokestatic 93, 3) := by decide +kernel
theorem dX5_engine_11 : decode cX5_engine 11 = .ok (.aload_n 0, 1) := by decide +kernel
theorem dX5_engine_12 : decode cX5_engine 12 = .ok (.getfield 19, 3) := by decide +kernel
theorem dX5_engine_15 : decode cX5_engine 15 = .ok (.aload_n 0, 1) := by decide +kernel
theorem dX5_engine_16 : decode cX5_engine 16 = .ok (.getfield 19, 3) := by decide +kernel
theorem dX5_engine_19 : decode cX5_engine 19 = .ok (.getfield 114, 3) := by decide +kernel
theorem dX5_engine_22 : decode cX5_engine 22 = .ok (.iload_n 1, 1) := by decide +kernel
theorem dX5_engine_23 : decode cX5_engine 23 = .ok (.invokevirtual 78, 3) := by decide +kernel
theorem dX5_engine_26 : decode cX5_engine 26 = .ok (.checkcast 117, 3) := by decide +kernel
theorem dX5_engine_29 : decode cX5_engine 29 = .ok (.iload_n 2, 1) := by decide +kernel
theorem dX5_engine_30 : decode cX5_engine 30 = .ok (.invokevirtual 156, 3) := by decide +kernel
theorem dX5_engine_33 : decode cX5_engine 33 = .ok (.ireturn, 1) := by decide +kernel
theorem dX5_pond_0 : decode cX5_pond 0 = .ok (.iload_n 1, 1) := by decide +kernel
theorem dX5_pond_1 : decode cX5_pond 1 = .ok (.ifCond .lt 17, 3) := by decide +kernel
theorem dX5_pond_4 : decode cX5_pond 4 = .ok (.iload_n 1, 1) := by decide +kernel
theorem dX5_pond_5 : decode cX5_pond 5 = .ok (.aload_n 0, 1) := by decide +kernel
theorem dX5_pond_6 : decode cX5_pond 6 = .ok (.getfield 19, 3) := by decide +kernel
theorem dX5_pond_9 : decode cX5_pond 9 = .ok (.getfield 67, 3) := by decide +kernel
theorem dX5_pond_12 : decode cX5_pond 12 = .ok (.invokevirtual 46, 3) := by decide +kernel
theorem dX5_pond_15 : decode cX5_pond 15 = .ok (.if_icmp .lt 13, 3) := by decide +kernel
theorem dX5_pond_18 : decode cX5_pond 18 = .ok (.new 160, 3) := by decide +kernel
theorem dX5_pond_21 : decode cX5_pond 21 = .ok (.dup, 1) := by decide +kernel
theorem dX5_pond_22 : decode cX5_pond 22 = .ok (.ldc 162, 2) := by decide +kernel
theorem dX5_pond_24 : decode cX5_pond 24 = .ok (.invokespecial 164, 3) := by decide +kernel
theorem dX5_pond_27 : decode cX5_pond 27 = .ok (.athrow, 1) := by decide +kernel
theorem dX5_pond_28 : decode cX5_pond 28 = .ok (.aload_n 0, 1) := by decide +kernel
theorem dX5_pond_29 : decode cX5_pond 29 = .ok (.getfield 19, 3) := by decide +kernel
theorem dX5_pond_32 : decode cX5_pond 32 = .ok (.getfield 67, 3) := by decide +kernel
theorem dX5_pond_35 : decode cX5_pond 35 = .ok (.iload_n 1, 1) := by decide +kernel
theorem dX5_pond_36 : decode cX5_pond 36 = .ok (.invokevirtual 78, 3) := by decide +kernel
theorem dX5_pond_39 : decode cX5_pond 39 = .ok (.checkcast 70, 3) := by decide +kernel
theorem dX5_pond_42 : decode cX5_pond 42 = .ok (.getfield 167, 3) := by decide +kernel
theorem dX5_pond_45 : decode cX5_pond 45 = .ok (.ireturn, 1) := by decide +kernel
theorem dX5_pass_0 : decode cX5_pass 0 = .ok (.iload_n 1, 1) := by decide +kernel
theorem dX5_pass_1 : decode cX5_pass 1 = .ok (.iconst 1, 1) := by decide +kernel
theorem dX5_pass_2 : decode cX5_pass 2 = .ok (.bipush 100, 2) := by decide +kernel
theorem dX5_pass_4 : decode cX5_pass 4 = .ok (.invokestatic 30, 3) := by decide +kernel
theorem dX5_pass_7 : decode cX5_pass 7 = .ok (.aload_n 0, 1) := by decide +kernel
theorem dX5_pass_8 : decode cX5_pass 8 = .ok (.getfield 19, 3) := by decide +kernel
theorem dX5_pass_11 : decode cX5_pass 11 = .ok (.iload_n 1, 1) := by decide +kernel
theorem dX5_pass_12 : decode cX5_pass 12 = .ok (.invokevirtual 170, 3) := by decide +kernel
theorem dX5_pass_15 : decode cX5_pass 15 = .ok (.ireturn, 1) := by decide +kernel
theorem dX5_count_0 : decode cX5_count 0 = .ok (.iload_n 1, 1) := by decide +kernel
theorem dX5_count_1 : decode cX5_count 1 = .ok (.bipush 9, 2) := by decide +kernel
theorem dX5_count_3 : decode cX5_count 3 = .ok (.invokestatic 93, 3) := by decide +kernel
theorem dX5_count_6 : decode cX5_count 6 = .ok (.aload_n 0, 1) := by decide +kernel
theorem dX5_count_7 : decode cX5_count 7 = .ok (.getfield 19, 3) := by decide +kernel
theorem dX5_count_10 : decode cX5_count 10 = .ok (.iload_n 1, 1) := by decide +kernel
theorem dX5_count_11 : decode cX5_count 11 = .ok (.invokevirtual 173, 3) := by decide +kernel
theorem dX5_count_14 : decode cX5_count 14 = .ok (.ireturn, 1) := by decide +kernel
theorem dX5_foresee_0 : decode cX5_foresee 0 = .ok (.iload_n 1, 1) := by decide +kernel
theorem dX5_foresee_1 : decode cX5_foresee 1 = .ok (.iconst 1, 1) := by decide +kernel
theorem dX5_foresee_2 : decode cX5_foresee 2 = .ok (.bipush 100, 2) := by decide +kernel
theorem dX5_foresee_4 : decode cX5_foresee 4 = .ok (.invokestatic 30, 3) := by decide +kernel
theorem dX5_foresee_7 : decode cX5_foresee 7 = .ok (.iload_n 2, 1) := by decide +kernel
theorem dX5_foresee_8 : decode cX5_foresee 8 = .ok (.iconst 2, 1) := by decide +kernel
theorem dX5_foresee_9 : decode cX5_foresee 9 = .ok (.invokestatic 93, 3) := by decide +kernel
theorem dX5_foresee_12 : decode cX5_foresee 12 = .ok (.aload_n 0, 1) := by decide +kernel
theorem dX5_foresee_13 : decode cX5_foresee 13 = .ok (.getfield 23, 3) := by decide +kernel
theorem dX5_foresee_16 : decode cX5_foresee 16 = .ok (.aload_n 0, 1) := by decide +kernel
theorem dX5_foresee_17 : decode cX5_foresee 17 = .ok (.getfield 19, 3) := by decide +kernel
theorem dX5_foresee_20 : decode cX5_foresee 20 = .ok (.invokevirtual 174, 3) := by decide +kernel
theorem dX5_foresee_23 : decode cX5_foresee 23 = .ok (.aload_n 0, 1) := by decide +kernel
theorem dX5_foresee_24 : decode cX5_foresee 24 = .ok (.getfield 23, 3) := by decide +kernel
theorem dX5_foresee_27 : decode cX5_foresee 27 = .ok (.iload_n 1, 1) := by decide +kernel
theorem dX5_foresee_28 : decode cX5_foresee 28 = .ok (.invokevirtual 170, 3) := by decide +kernel
theorem dX5_foresee_31 : decode cX5_foresee 31 = .ok (.pop, 1) := by decide +kernel
theorem dX5_foresee_32 : decode cX5_foresee 32 = .ok (.iload_n 2, 1) := by decide +kernel
theorem dX5_foresee_33 : decode cX5_foresee 33 = .ok (.lookupswitch 45 #[(0, 27), (1, 36)], 27) := by decide +kernel
theorem dX5_foresee_60 : decode cX5_foresee 60 = .ok (.aload_n 0, 1) := by decide +kernel
theorem dX5_foresee_61 : decode cX5_foresee 61 = .ok (.getfield 23, 3) := by decide +kernel
theorem dX5_foresee_64 : decode cX5_foresee 64 = .ok (.iconst 2, 1) := by decide +kernel
theorem dX5_foresee_65 : decode cX5_foresee 65 = .ok (.invokevirtual 173, 3) := by decide +kernel
theorem dX5_foresee_68 : decode cX5_foresee 68 = .ok (.ireturn, 1) := by decide +kernel
theorem dX5_foresee_69 : decode cX5_foresee 69 = .ok (.aload_n 0, 1) := by decide +kernel
theorem dX5_foresee_70 : decode cX5_foresee 70 = .ok (.getfield 23, 3) := by decide +kernel
theorem dX5_foresee_73 : decode cX5_foresee 73 = .ok (.iconst 4, 1) := by decide +kernel
theorem dX5_foresee_74 : decode cX5_foresee 74 = .ok (.invokevirtual 173, 3) := by decide +kernel
theorem dX5_foresee_77 : decode cX5_foresee 77 = .ok (.ireturn, 1) := by decide +kernel
theorem dX5_foresee_78 : decode cX5_foresee 78 = .ok (.aload_n 0, 1) := by decide +kernel
theorem dX5_foresee_79 : decode cX5_foresee 79 = .ok (.getfield 23, 3) := by decide +kernel
theorem dX5_foresee_82 : decode cX5_foresee 82 = .ok (.bipush 8, 2) := by decide +kernel
theorem dX5_foresee_84 : decode cX5_foresee 84 = .ok (.invokevirtual 173, 3) := by decide +kernel
theorem dX5_foresee_87 : decode cX5_foresee 87 = .ok (.ireturn, 1) := by decide +kernel
theorem dX5_lasts_0 : decode cX5_lasts 0 = .ok (.aload_n 0, 1) := by decide +kernel
theorem dX5_lasts_1 : decode cX5_lasts 1 = .ok (.getfield 23, 3) := by decide +kernel
theorem dX5_lasts_4 : decode cX5_lasts 4 = .ok (.aload_n 0, 1) := by decide +kernel
theorem dX5_lasts_5 : decode cX5_lasts 5 = .ok (.getfield 19, 3) := by decide +kernel
theorem dX5_lasts_8 : decode cX5_lasts 8 = .ok (.invokevirtual 174, 3) := by decide +kernel
theorem dX5_lasts_11 : decode cX5_lasts 11 = .ok (.iconst 0, 1) := by decide +kernel
theorem dX5_lasts_12 : decode cX5_lasts 12 = .ok (.istore_n 1, 1) := by decide +kernel
theorem dX5_lasts_13 : decode cX5_lasts 13 = .ok (.iload_n 1, 1) := by decide +kernel
theorem dX5_lasts_14 : decode cX5_lasts 14 = .ok (.sipush 200, 3) := by decide +kernel
theorem dX5_lasts_17 : decode cX5_lasts 17 = .ok (.if_icmp .gt 31, 3) := by decide +kernel
theorem dX5_lasts_20 : decode cX5_lasts 20 = .ok (.aload_n 0, 1) := by decide +kernel
theorem dX5_lasts_21 : decode cX5_lasts 21 = .ok (.getfield 23, 3) := by decide +kernel
theorem dX5_lasts_24 : decode cX5_lasts 24 = .ok (.iconst 1, 1) := by decide +kernel
theorem dX5_lasts_25 : decode cX5_lasts 25 = .ok (.invokevirtual 89, 3) := by decide +kernel
theorem dX5_lasts_28 : decode cX5_lasts 28 = .ok (.ifCond .ne 5, 3) := by decide +kernel
theorem dX5_lasts_31 : decode cX5_lasts 31 = .ok (.iload_n 1, 1) := by decide +kernel
theorem dX5_lasts_32 : decode cX5_lasts 32 = .ok (.ireturn, 1) := by decide +kernel
theorem dX5_lasts_33 : decode cX5_lasts 33 = .ok (.aload_n 0, 1) := by decide +kernel
theorem dX5_lasts_34 : decode cX5_lasts 34 = .ok (.getfield 23, 3) := by decide +kernel
theorem dX5_lasts_37 : decode cX5_lasts 37 = .ok (.iconst 1, 1) := by decide +kernel
theorem dX5_lasts_38 : decode cX5_lasts 38 = .ok (.invokevirtual 170, 3) := by decide +kernel
theorem dX5_lasts_41 : decode cX5_lasts 41 = .ok (.pop, 1) := by decide +kernel
theorem dX5_lasts_42 : decode cX5_lasts 42 = .ok (.iinc 1 1, 3) := by decide +kernel
theorem dX5_lasts_45 : decode cX5_lasts 45 = .ok (.goto (-32), 3) := by decide +kernel
theorem dX5_lasts_48 : decode cX5_lasts 48 = .ok (.iconst (-1), 1) := by decide +kernel
theorem dX5_lasts_49 : decode cX5_lasts 49 = .ok (.ireturn, 1) := by decide +kernel
theorem dX5_weakest_0 : decode cX5_weakest 0 = .ok (.aload_n 0, 1) := by decide +kernel
theorem dX5_weakest_1 : decode cX5_weakest 1 = .ok (.iload_n 1, 1) := by decide +kernel
theorem dX5_weakest_2 : decode cX5_weakest 2 = .ok (.invokevirtual 120, 3) := by decide +kernel
theorem dX5_weakest_5 : decode cX5_weakest 5 = .ok (.iload_n 1, 1) := by decide +kernel
theorem dX5_weakest_6 : decode cX5_weakest 6 = .ok (.istore_n 2, 1) := by decide +kernel
theorem dX5_weakest_7 : decode cX5_weakest 7 = .ok (.aload_n 0, 1) := by decide +kernel
theorem dX5_weakest_8 : decode cX5_weakest 8 = .ok (.getfield 19, 3) := by decide +kernel
theorem dX5_weakest_11 : decode cX5_weakest 11 = .ok (.getfield 114, 3) := by decide +kernel
theorem dX5_weakest_14 : decode cX5_weakest 14 = .ok (.iload_n 1, 1) := by decide +kernel
theorem dX5_weakest_15 : decode cX5_weakest 15 = .ok (.invokevirtual 78, 3) := by decide +kernel
theorem dX5_weakest_18 : decode cX5_weakest 18 = .ok (.checkcast 117, 3) := by decide +kernel
theorem dX5_weakest_21 : decode cX5_weakest 21 = .ok (.invokevirtual 178, 3) := by decide +kernel
theorem dX5_weakest_24 : decode cX5_weakest 24 = .ok (.istore_n 3, 1) := by decide +kernel
theorem dX5_weakest_25 : decode cX5_weakest 25 = .ok (.iconst 0, 1) := by decide +kernel
theorem dX5_weakest_26 : decode cX5_weakest 26 = .ok (.istore 4, 2) := by decide +kernel
theorem dX5_weakest_28 : decode cX5_weakest 28 = .ok (.iload 4, 2) := by decide +kernel
theorem dX5_weakest_30 : decode cX5_weakest 30 = .ok (.aload_n 0, 1) := by decide +kernel
theorem dX5_weakest_31 : decode cX5_weakest 31 = .ok (.getfield 19, 3) := by decide +kernel
theorem dX5_weakest_34 : decode cX5_weakest 34 = .ok (.getfield 114, 3) := by decide +kernel
theorem dX5_weakest_37 : decode cX5_weakest 37 = .ok (.invokevirtual 46, 3) := by decide +kernel
theorem dX5_weakest_40 : decode cX5_weakest 40 = .ok (.if_icmp .ge 78, 3) := by decide +kernel
theorem dX5_weakest_43 : decode cX5_weakest 43 = .ok (.aload_n 0, 1) := by decide +kernel
theorem dX5_weakest_44 : decode cX5_weakest 44 = .ok (.getfield 19, 3) := by decide +kernel
theorem dX5_weakest_47 : decode cX5_weakest 47 = .ok (.getfield 114, 3) := by decide +kernel
theorem dX5_weakest_50 : decode cX5_weakest 50 = .ok (.iload 4, 2) := by decide +kernel
theorem dX5_weakest_52 : decode cX5_weakest 52 = .ok (.invokevirtual 78, 3) := by decide +kernel
theorem dX5_weakest_55 : decode cX5_weakest 55 = .ok (.checkcast 117, 3) := by decide +kernel
theorem dX5_weakest_58 : decode cX5_weakest 58 = .ok (.invokevirtual 178, 3) := by decide +kernel
theorem dX5_weakest_61 : decode cX5_weakest 61 = .ok (.istore 5, 2) := by decide +kernel
theorem dX5_weakest_63 : decode cX5_weakest 63 = .ok (.iload 5, 2) := by decide +kernel
theorem dX5_weakest_65 : decode cX5_weakest 65 = .ok (.iload_n 3, 1) := by decide +kernel
theorem dX5_weakest_66 : decode cX5_weakest 66 = .ok (.if_icmp .lt 15, 3) := by decide +kernel
theorem dX5_weakest_69 : decode cX5_weakest 69 = .ok (.iload 5, 2) := by decide +kernel
theorem dX5_weakest_71 : decode cX5_weakest 71 = .ok (.iload_n 3, 1) := by decide +kernel
theorem dX5_weakest_72 : decode cX5_weakest 72 = .ok (.if_icmp .ne 13, 3) := by decide +kernel
theorem dX5_weakest_75 : decode cX5_weakest 75 = .ok (.iload 4, 2) := by decide +kernel
theorem dX5_weakest_77 : decode cX5_weakest 77 = .ok (.iload_n 2, 1) := by decide +kernel
theorem dX5_weakest_78 : decode cX5_weakest 78 = .ok (.if_icmp .ge 7, 3) := by decide +kernel
theorem dX5_weakest_81 : decode cX5_weakest 81 = .ok (.iconst 1, 1) := by decide +kernel
theorem dX5_weakest_82 : decode cX5_weakest 82 = .ok (.goto 4, 3) := by decide +kernel
theorem dX5_weakest_85 : decode cX5_weakest 85 = .ok (.iconst 0, 1) := by decide +kernel
theorem dX5_weakest_86 : decode cX5_weakest 86 = .ok (.istore 6, 2) := by decide +kernel
theorem dX5_weakest_88 : decode cX5_weakest 88 = .ok (.iload 6, 2) := by decide +kernel
theorem dX5_weakest_90 : decode cX5_weakest 90 = .ok (.ifCond .eq 22, 3) := by decide +kernel
theorem dX5_weakest_93 : decode cX5_weakest 93 = .ok (.aload_n 0, 1) := by decide +kernel
theorem dX5_weakest_94 : decode cX5_weakest 94 = .ok (.getfield 19, 3) := by decide +kernel
theorem dX5_weakest_97 : decode cX5_weakest 97 = .ok (.iload 4, 2) := by decide +kernel
theorem dX5_weakest_99 : decode cX5_weakest 99 = .ok (.iload_n 1, 1) := by decide +kernel
theorem dX5_weakest_100 : decode cX5_weakest 100 = .ok (.invokevirtual 148, 3) := by decide +kernel
theorem dX5_weakest_103 : decode cX5_weakest 103 = .ok (.ifCond .eq 9, 3) := by decide +kernel
theorem dX5_weakest_106 : decode cX5_weakest 106 = .ok (.iload 4, 2) := by decide +kernel
theorem dX5_weakest_108 : decode cX5_weakest 108 = .ok (.istore_n 2, 1) := by decide +kernel
theorem dX5_weakest_109 : decode cX5_weakest 109 = .ok (.iload 5, 2) := by decide +kernel
theorem dX5_weakest_111 : decode cX5_weakest 111 = .ok (.istore_n 3, 1) := by decide +kernel
theorem dX5_weakest_112 : decode cX5_weakest 112 = .ok (.iinc 4 1, 3) := by decide +kernel
theorem dX5_weakest_115 : decode cX5_weakest 115 = .ok (.goto (-87), 3) := by decide +kernel
theorem dX5_weakest_118 : decode cX5_weakest 118 = .ok (.iload_n 2, 1) := by decide +kernel
theorem dX5_weakest_119 : decode cX5_weakest 119 = .ok (.ireturn, 1) := by decide +kernel
theorem dX5_advise_0 : decode cX5_advise 0 = .ok (.aload_n 0, 1) := by decide +kernel
theorem dX5_advise_1 : decode cX5_advise 1 = .ok (.iload_n 1, 1) := by decide +kernel
theorem dX5_advise_2 : decode cX5_advise 2 = .ok (.invokevirtual 120, 3) := by decide +kernel
theorem dX5_advise_5 : decode cX5_advise 5 = .ok (.iload_n 2, 1) := by decide +kernel
theorem dX5_advise_6 : decode cX5_advise 6 = .ok (.iconst 1, 1) := by decide +kernel
theorem dX5_advise_7 : decode cX5_advise 7 = .ok (.bipush 50, 2) := by decide +kernel
theorem dX5_advise_9 : decode cX5_advise 9 = .ok (.invokestatic 30, 3) := by decide +kernel
theorem dX5_advise_12 : decode cX5_advise 12 = .ok (.aload_n 0, 1) := by decide +kernel
theorem dX5_advise_13 : decode cX5_advise 13 = .ok (.getfield 19, 3) := by decide +kernel
theorem dX5_advise_16 : decode cX5_advise 16 = .ok (.getfield 114, 3) := by decide +kernel
theorem dX5_advise_19 : decode cX5_advise 19 = .ok (.iload_n 1, 1) := by decide +kernel
theorem dX5_advise_20 : decode cX5_advise 20 = .ok (.invokevirtual 78, 3) := by decide +kernel
theorem dX5_advise_23 : decode cX5_advise 23 = .ok (.checkcast 117, 3) := by decide +kernel
theorem dX5_advise_26 : decode cX5_advise 26 = .ok (.astore_n 3, 1) := by decide +kernel
theorem dX5_advise_27 : decode cX5_advise 27 = .ok (.iconst (-1), 1) := by decide +kernel
theorem dX5_advise_28 : decode cX5_advise 28 = .ok (.istore 4, 2) := by decide +kernel
theorem dX5_advise_30 : decode cX5_advise 30 = .ok (.bipush 31, 2) := by decide +kernel
theorem dX5_advise_32 : decode cX5_advise 32 = .ok (.istore 5, 2) := by decide +kernel
theorem dX5_advise_34 : decode cX5_advise 34 = .ok (.iconst 0, 1) := by decide +kernel
theorem dX5_advise_35 : decode cX5_advise 35 = .ok (.istore 6, 2) := by decide +kernel
theorem dX5_advise_37 : decode cX5_advise 37 = .ok (.iload 6, 2) := by decide +kernel
theorem dX5_advise_39 : decode cX5_advise 39 = .ok (.aload_n 0, 1) := by decide +kernel
theorem dX5_advise_40 : decode cX5_advise 40 = .ok (.getfield 19, 3) := by decide +kernel
theorem dX5_advise_43 : decode cX5_advise 43 = .ok (.getfield 42, 3) := by decide +kernel
theorem dX5_advise_46 : decode cX5_advise 46 = .ok (.invokevirtual 46, 3) := by decide +kernel
theorem dX5_advise_49 : decode cX5_advise 49 = .ok (.if_icmp .ge 96, 3) := by decide +kernel
theorem dX5_advise_52 : decode cX5_advise 52 = .ok (.aload_n 0, 1) := by decide +kernel
theorem dX5_advise_53 : decode cX5_advise 53 = .ok (.getfield 19, 3) := by decide +kernel
theorem dX5_advise_56 : decode cX5_advise 56 = .ok (.getfield 42, 3) := by decide +kernel
theorem dX5_advise_59 : decode cX5_advise 59 = .ok (.iload 6, 2) := by decide +kernel
theorem dX5_advise_61 : decode cX5_advise 61 = .ok (.invokevirtual 78, 3) := by decide +kernel
theorem dX5_advise_64 : decode cX5_advise 64 = .ok (.checkcast 56, 3) := by decide +kernel
theorem dX5_advise_67 : decode cX5_advise 67 = .ok (.astore 7, 2) := by decide +kernel
theorem dX5_advise_69 : decode cX5_advise 69 = .ok (.aload_n 3, 1) := by decide +kernel
theorem dX5_advise_70 : decode cX5_advise 70 = .ok (.getfield 130, 3) := by decide +kernel
theorem dX5_advise_73 : decode cX5_advise 73 = .ok (.aload 7, 2) := by decide +kernel
theorem dX5_advise_75 : decode cX5_advise 75 = .ok (.getfield 155, 3) := by decide +kernel
theorem dX5_advise_78 : decode cX5_advise 78 = .ok (.invokestatic 145, 3) := by decide +kernel
theorem dX5_advise_81 : decode cX5_advise 81 = .ok (.bipush 6, 2) := by decide +kernel
theorem dX5_advise_83 : decode cX5_advise 83 = .ok (.if_icmp .gt 7, 3) := by decide +kernel
theorem dX5_advise_86 : decode cX5_advise 86 = .ok (.iconst 1, 1) := by decide +kernel
theorem dX5_advise_87 : decode cX5_advise 87 = .ok (.goto 4, 3) := by decide +kernel
theorem dX5_advise_90 : decode cX5_advise 90 = .ok (.iconst 0, 1) := by decide +kernel
theorem dX5_advise_91 : decode cX5_advise 91 = .ok (.istore 8, 2) := by decide +kernel
theorem dX5_advise_93 : decode cX5_advise 93 = .ok (.aload_n 3, 1) := by decide +kernel
theorem dX5_advise_94 : decode cX5_advise 94 = .ok (.invokevirtual 126, 3) := by decide +kernel
theorem dX5_advise_97 : decode cX5_advise 97 = .ok (.ifCond .eq 42, 3) := by decide +kernel
theorem dX5_advise_100 : decode cX5_advise 100 = .ok (.aload 7, 2) := by decide +kernel
theorem dX5_advise_102 : decode cX5_advise 102 = .ok (.getfield 82, 3) := by decide +kernel
theorem dX5_advise_105 : decode cX5_advise 105 = .ok (.iconst 1, 1) := by decide +kernel
theorem dX5_advise_106 : decode cX5_advise 106 = .ok (.if_icmp .ne 33, 3) := by decide +kernel
theorem dX5_advise_109 : decode cX5_advise 109 = .ok (.iload 8, 2) := by decide +kernel
theorem dX5_advise_111 : decode cX5_advise 111 = .ok (.ifCond .eq 28, 3) := by decide +kernel
theorem dX5_advise_114 : decode cX5_advise 114 = .ok (.aload_n 0, 1) := by decide +kernel
theorem dX5_advise_115 : decode cX5_advise 115 = .ok (.iload_n 1, 1) := by decide +kernel
theorem dX5_advise_116 : decode cX5_advise 116 = .ok (.iload 6, 2) := by decide +kernel
theorem dX5_advise_118 : decode cX5_advise 118 = .ok (.iload_n 2, 1) := by decide +kernel
theorem dX5_advise_119 : decode cX5_advise 119 = .ok (.invokevirtual 181, 3) := by decide +kernel
theorem dX5_advise_122 : decode cX5_advise 122 = .ok (.istore 9, 2) := by decide +kernel
theorem dX5_advise_124 : decode cX5_advise 124 = .ok (.iload 9, 2) := by decide +kernel
theorem dX5_advise_126 : decode cX5_advise 126 = .ok (.iload 5, 2) := by decide +kernel
theorem dX5_advise_128 : decode cX5_advise 128 = .ok (.if_icmp .ge 11, 3) := by decide +kernel
theorem dX5_advise_131 : decode cX5_advise 131 = .ok (.iload 9, 2) := by decide +kernel
theorem dX5_advise_133 : decode cX5_advise 133 = .ok (.istore 5, 2) := by decide +kernel
theorem dX5_advise_135 : decode cX5_advise 135 = .ok (.iload 6, 2) := by decide +kernel
theorem dX5_advise_137 : decode cX5_advise 137 = .ok (.istore 4, 2) := by decide +kernel
theorem dX5_advise_139 : decode cX5_advise 139 = .ok (.iinc 6 1, 3) := by decide +kernel
theorem dX5_advise_142 : decode cX5_advise 142 = .ok (.goto (-105), 3) := by decide +kernel
theorem dX5_advise_145 : decode cX5_advise 145 = .ok (.iload 4, 2) := by decide +kernel
theorem dX5_advise_147 : decode cX5_advise 147 = .ok (.ireturn, 1) := by decide +kernel
theorem dX5_walls_0 : decode cX5_walls 0 = .ok (.aload_n 0, 1) := by decide +kernel
theorem dX5_walls_1 : decode cX5_walls 1 = .ok (.getfield 19, 3) := by decide +kernel
theorem dX5_walls_4 : decode cX5_walls 4 = .ok (.getfield 42, 3) := by decide +kernel
theorem dX5_walls_7 : decode cX5_walls 7 = .ok (.invokevirtual 46, 3) := by decide +kernel
theorem dX5_walls_10 : decode cX5_walls 10 = .ok (.istore_n 1, 1) := by decide +kernel
theorem dX5_walls_11 : decode cX5_walls 11 = .ok (.iload_n 1, 1) := by decide +kernel
theorem dX5_walls_12 : decode cX5_walls 12 = .ok (.ifCond .ne 5, 3) := by decide +kernel
theorem dX5_walls_15 : decode cX5_walls 15 = .ok (.dconst 0, 1) := by decide +kernel
theorem dX5_walls_16 : decode cX5_walls 16 = .ok (.dreturn, 1) := by decide +kernel
theorem dX5_walls_17 : decode cX5_walls 17 = .ok (.iconst 0, 1) := by decide +kernel
theorem dX5_walls_18 : decode cX5_walls 18 = .ok (.istore_n 2, 1) := by decide +kernel
theorem dX5_walls_19 : decode cX5_walls 19 = .ok (.iconst 0, 1) := by decide +kernel
theorem dX5_walls_20 : decode cX5_walls 20 = .ok (.istore_n 3, 1) := by decide +kernel
theorem dX5_walls_21 : decode cX5_walls 21 = .ok (.iload_n 3, 1) := by decide +kernel
theorem dX5_walls_22 : decode cX5_walls 22 = .ok (.iload_n 1, 1) := by decide +kernel
theorem dX5_walls_23 : decode cX5_walls 23 = .ok (.if_icmp .ge 29, 3) := by decide +kernel
theorem dX5_walls_26 : decode cX5_walls 26 = .ok (.iload_n 2, 1) := by decide +kernel
theorem dX5_walls_27 : decode cX5_walls 27 = .ok (.aload_n 0, 1) := by decide +kernel
theorem dX5_walls_28 : decode cX5_walls 28 = .ok (.getfield 19, 3) := by decide +kernel
theorem dX5_walls_31 : decode cX5_walls 31 = .ok (.getfield 42, 3) := by decide +kernel
theorem dX5_walls_34 : decode cX5_walls 34 = .ok (.iload_n 3, 1) := by decide +kernel
theorem dX5_walls_35 : decode cX5_walls 35 = .ok (.invokevirtual 78, 3) := by decide +kernel
theorem dX5_walls_38 : decode cX5_walls 38 = .ok (.checkcast 56, 3) := by decide +kernel
theorem dX5_walls_41 : decode cX5_walls 41 = .ok (.getfield 185, 3) := by decide +kernel
theorem dX5_walls_44 : decode cX5_walls 44 = .ok (.iadd, 1) := by decide +kernel
theorem dX5_walls_45 : decode cX5_walls 45 = .ok (.istore_n 2, 1) := by decide +kernel
theorem dX5_walls_46 : decode cX5_walls 46 = .ok (.iinc 3 1, 3) := by decide +kernel
theorem dX5_walls_49 : decode cX5_walls 49 = .ok (.goto (-28), 3) := by decide +kernel
theorem dX5_walls_52 : decode cX5_walls 52 = .ok (.iload_n 2, 1) := by decide +kernel
theorem dX5_walls_53 : decode cX5_walls 53 = .ok (.i2d, 1) := by decide +kernel
theorem dX5_walls_54 : decode cX5_walls 54 = .ok (.iload_n 1, 1) := by decide +kernel
theorem dX5_walls_55 : decode cX5_walls 55 = .ok (.i2d, 1) := by decide +kernel
theorem dX5_walls_56 : decode cX5_walls 56 = .ok (.ddiv, 1) := by decide +kernel
theorem dX5_walls_57 : decode cX5_walls 57 = .ok (.dreturn, 1) := by decide +kernel
theorem dX5_digest_0 : decode cX5_digest 0 = .ok (.ldc2_w 188, 3) := by decide +kernel
theorem dX5_digest_3 : decode cX5_digest 3 = .ok (.lstore_n 1, 1) := by decide +kernel
theorem dX5_digest_4 : decode cX5_digest 4 = .ok (.iconst 0, 1) := by decide +kernel
theorem dX5_digest_5 : decode cX5_digest 5 = .ok (.istore_n 3, 1) := by decide +kernel
theorem dX5_digest_6 : decode cX5_digest 6 = .ok (.iload_n 3, 1) := by decide +kernel
theorem dX5_digest_7 : decode cX5_digest 7 = .ok (.bipush 9, 2) := by decide +kernel
theorem dX5_digest_9 : decode cX5_digest 9 = .ok (.if_icmp .gt 25, 3) := by decide +kernel
theorem dX5_digest_12 : decode cX5_digest 12 = .ok (.lload_n 1, 1) := by decide +kernel
theorem dX5_digest_13 : decode cX5_digest 13 = .ok (.ldc2_w 190, 3) := by decide +kernel
theorem dX5_digest_16 : decode cX5_digest 16 = .ok (.lmul, 1) := by decide +kernel
theorem dX5_digest_17 : decode cX5_digest 17 = .ok (.aload_n 0, 1) := by decide +kernel
theorem dX5_digest_18 : decode cX5_digest 18 = .ok (.getfield 19, 3) := by decide +kernel
theorem dX5_digest_21 : decode cX5_digest 21 = .ok (.iload_n 3, 1) := by decide +kernel
theorem dX5_digest_22 : decode cX5_digest 22 = .ok (.invokevirtual 173, 3) := by decide +kernel
theorem dX5_digest_25 : decode cX5_digest 25 = .ok (.i2l, 1) := by decide +kernel
theorem dX5_digest_26 : decode cX5_digest 26 = .ok (.ladd, 1) := by decide +kernel
theorem dX5_digest_27 : decode cX5_digest 27 = .ok (.lstore_n 1, 1) := by decide +kernel
theorem dX5_digest_28 : decode cX5_digest 28 = .ok (.iinc 3 1, 3) := by decide +kernel
theorem dX5_digest_31 : decode cX5_digest 31 = .ok (.goto (-25), 3) := by decide +kernel
theorem dX5_digest_34 : decode cX5_digest 34 = .ok (.iconst 0, 1) := by decide +kernel
theorem dX5_digest_35 : decode cX5_digest 35 = .ok (.istore_n 3, 1) := by decide +kernel
theorem dX5_digest_36 : decode cX5_digest 36 = .ok (.iload_n 3, 1) := by decide +kernel
theorem dX5_digest_37 : decode cX5_digest 37 = .ok (.aload_n 0, 1) := by decide +kernel
theorem dX5_digest_38 : decode cX5_digest 38 = .ok (.getfield 19, 3) := by decide +kernel
theorem dX5_digest_41 : decode cX5_digest 41 = .ok (.getfield 42, 3) := by decide +kernel
theorem dX5_digest_44 : decode cX5_digest 44 = .ok (.invokevirtual 46, 3) := by decide +kernel
theorem dX5_digest_47 : decode cX5_digest 47 = .ok (.if_icmp .ge 52, 3) := by decide +kernel
theorem dX5_digest_50 : decode cX5_digest 50 = .ok (.iconst 0, 1) := by decide +kernel
theorem dX5_digest_51 : decode cX5_digest 51 = .ok (.istore 4, 2) := by decide +kernel
theorem dX5_digest_53 : decode cX5_digest 53 = .ok (.iload 4, 2) := by decide +kernel
theorem dX5_digest_55 : decode cX5_digest 55 = .ok (.bipush 6, 2) := by decide +kernel
theorem dX5_digest_57 : decode cX5_digest 57 = .ok (.if_icmp .gt 36, 3) := by decide +kernel
theorem dX5_digest_60 : decode cX5_digest 60 = .ok (.lload_n 1, 1) := by decide +kernel
theorem dX5_digest_61 : decode cX5_digest 61 = .ok (.ldc2_w 190, 3) := by decide +kernel
theorem dX5_digest_64 : decode cX5_digest 64 = .ok (.lmul, 1) := by decide +kernel
theorem dX5_digest_65 : decode cX5_digest 65 = .ok (.aload_n 0, 1) := by decide +kernel
theorem dX5_digest_66 : decode cX5_digest 66 = .ok (.getfield 19, 3) := by decide +kernel
theorem dX5_digest_69 : decode cX5_digest 69 = .ok (.getfield 42, 3) := by decide +kernel
theorem dX5_digest_72 : decode cX5_digest 72 = .ok (.iload_n 3, 1) := by decide +kernel
theorem dX5_digest_73 : decode cX5_digest 73 = .ok (.invokevirtual 78, 3) := by decide +kernel
theorem dX5_digest_76 : decode cX5_digest 76 = .ok (.checkcast 56, 3) := by decide +kernel
theorem dX5_digest_79 : decode cX5_digest 79 = .ok (.iload 4, 2) := by decide +kernel
theorem dX5_digest_81 : decode cX5_digest 81 = .ok (.invokevirtual 108, 3) := by decide +kernel
theorem dX5_digest_84 : decode cX5_digest 84 = .ok (.i2l, 1) := by decide +kernel
theorem dX5_digest_85 : decode cX5_digest 85 = .ok (.ladd, 1) := by decide +kernel
theorem dX5_digest_86 : decode cX5_digest 86 = .ok (.lstore_n 1, 1) := by decide +kernel
theorem dX5_digest_87 : decode cX5_digest 87 = .ok (.iinc 4 1, 3) := by decide +kernel
theorem dX5_digest_90 : decode cX5_digest 90 = .ok (.goto (-37), 3) := by decide +kernel
theorem dX5_digest_93 : decode cX5_digest 93 = .ok (.iinc 3 1, 3) := by decide +kernel
theorem dX5_digest_96 : decode cX5_digest 96 = .ok (.goto (-60), 3) := by decide +kernel
theorem dX5_digest_99 : decode cX5_digest 99 = .ok (.iconst 0, 1) := by decide +kernel
theorem dX5_digest_100 : decode cX5_digest 100 = .ok (.istore_n 3, 1) := by decide +kernel
theorem dX5_digest_101 : decode cX5_digest 101 = .ok (.iload_n 3, 1) := by decide +kernel
theorem dX5_digest_102 : decode cX5_digest 102 = .ok (.aload_n 0, 1) := by decide +kernel
theorem dX5_digest_103 : decode cX5_digest 103 = .ok (.getfield 19, 3) := by decide +kernel
theorem dX5_digest_106 : decode cX5_digest 106 = .ok (.getfield 67, 3) := by decide +kernel
theorem dX5_digest_109 : decode cX5_digest 109 = .ok (.invokevirtual 46, 3) := by decide +kernel
theorem dX5_digest_112 : decode cX5_digest 112 = .ok (.if_icmp .ge 59, 3) := by decide +kernel
theorem dX5_digest_115 : decode cX5_digest 115 = .ok (.lload_n 1, 1) := by decide +kernel
theorem dX5_digest_116 : decode cX5_digest 116 = .ok (.ldc2_w 190, 3) := by decide +kernel
theorem dX5_digest_119 : decode cX5_digest 119 = .ok (.lmul, 1) := by decide +kernel
theorem dX5_digest_120 : decode cX5_digest 120 = .ok (.aload_n 0, 1) := by decide +kernel
theorem dX5_digest_121 : decode cX5_digest 121 = .ok (.getfield 19, 3) := by decide +kernel
theorem dX5_digest_124 : decode cX5_digest 124 = .ok (.getfield 67, 3) := by decide +kernel
theorem dX5_digest_127 : decode cX5_digest 127 = .ok (.iload_n 3, 1) := by decide +kernel
theorem dX5_digest_128 : decode cX5_digest 128 = .ok (.invokevirtual 78, 3) := by decide +kernel
theorem dX5_digest_131 : decode cX5_digest 131 = .ok (.checkcast 70, 3) := by decide +kernel
theorem dX5_digest_134 : decode cX5_digest 134 = .ok (.getfield 192, 3) := by decide +kernel
theorem dX5_digest_137 : decode cX5_digest 137 = .ok (.i2l, 1) := by decide +kernel
theorem dX5_digest_138 : decode cX5_digest 138 = .ok (.ladd, 1) := by decide +kernel
theorem dX5_digest_139 : decode cX5_digest 139 = .ok (.lstore_n 1, 1) := by decide +kernel
theorem dX5_digest_140 : decode cX5_digest 140 = .ok (.lload_n 1, 1) := by decide +kernel
theorem dX5_digest_141 : decode cX5_digest 141 = .ok (.ldc2_w 190, 3) := by decide +kernel
theorem dX5_digest_144 : decode cX5_digest 144 = .ok (.lmul, 1) := by decide +kernel
theorem dX5_digest_145 : decode cX5_digest 145 = .ok (.aload_n 0, 1) := by decide +kernel
theorem dX5_digest_146 : decode cX5_digest 146 = .ok (.getfield 19, 3) := by decide +kernel
theorem dX5_digest_149 : decode cX5_digest 149 = .ok (.getfield 67, 3) := by decide +kernel
theorem dX5_digest_152 : decode cX5_digest 152 = .ok (.iload_n 3, 1) := by decide +kernel
theorem dX5_digest_153 : decode cX5_digest 153 = .ok (.invokevirtual 78, 3) := by decide +kernel
theorem dX5_digest_156 : decode cX5_digest 156 = .ok (.checkcast 70, 3) := by decide +kernel
theorem dX5_digest_159 : decode cX5_digest 159 = .ok (.getfield 167, 3) := by decide +kernel
theorem dX5_digest_162 : decode cX5_digest 162 = .ok (.i2l, 1) := by decide +kernel
theorem dX5_digest_163 : decode cX5_digest 163 = .ok (.ladd, 1) := by decide +kernel
theorem dX5_digest_164 : decode cX5_digest 164 = .ok (.lstore_n 1, 1) := by decide +kernel
theorem dX5_digest_165 : decode cX5_digest 165 = .ok (.iinc 3 1, 3) := by decide +kernel
theorem dX5_digest_168 : decode cX5_digest 168 = .ok (.goto (-67), 3) := by decide +kernel
theorem dX5_digest_171 : decode cX5_digest 171 = .ok (.iconst 0, 1) := by decide +kernel
theorem dX5_digest_172 : decode cX5_digest 172 = .ok (.istore_n 3, 1) := by decide +kernel
theorem dX5_digest_173 : decode cX5_digest 173 = .ok (.iload_n 3, 1) := by decide +kernel
theorem dX5_digest_174 : decode cX5_digest 174 = .ok (.aload_n 0, 1) := by decide +kernel
theorem dX5_digest_175 : decode cX5_digest 175 = .ok (.getfield 19, 3) := by decide +kernel
theorem dX5_digest_178 : decode cX5_digest 178 = .ok (.getfield 114, 3) := by decide +kernel
theorem dX5_digest_181 : decode cX5_digest 181 = .ok (.invokevirtual 46, 3) := by decide +kernel
theorem dX5_digest_184 : decode cX5_digest 184 = .ok (.if_icmp .ge 56, 3) := by decide +kernel
theorem dX5_digest_187 : decode cX5_digest 187 = .ok (.iconst 0, 1) := by decide +kernel
theorem dX5_digest_188 : decode cX5_digest 188 = .ok (.istore 4, 2) := by decide +kernel
theorem dX5_digest_190 : decode cX5_digest 190 = .ok (.iload 4, 2) := by decide +kernel
theorem dX5_digest_192 : decode cX5_digest 192 = .ok (.bipush 9, 2) := by decide +kernel
theorem dX5_digest_194 : decode cX5_digest 194 = .ok (.if_icmp .gt 40, 3) := by decide +kernel
theorem dX5_digest_197 : decode cX5_digest 197 = .ok (.lload_n 1, 1) := by decide +kernel
theorem dX5_digest_198 : decode cX5_digest 198 = .ok (.ldc2_w 190, 3) := by decide +kernel
theorem dX5_digest_201 : decode cX5_digest 201 = .ok (.lmul, 1) := by decide +kernel
theorem dX5_digest_202 : decode cX5_digest 202 = .ok (.aload_n 0, 1) := by decide +kernel
theorem dX5_digest_203 : decode cX5_digest 203 = .ok (.getfield 19, 3) := by decide +kernel
theorem dX5_digest_206 : decode cX5_digest 206 = .ok (.aload_n 0, 1) := by decide +kernel
theorem dX5_digest_207 : decode cX5_digest 207 = .ok (.getfield 19, 3) := by decide +kernel
theorem dX5_digest_210 : decode cX5_digest 210 = .ok (.getfield 114, 3) := by decide +kernel
theorem dX5_digest_213 : decode cX5_digest 213 = .ok (.iload_n 3, 1) := by decide +kernel
theorem dX5_digest_214 : decode cX5_digest 214 = .ok (.invokevirtual 78, 3) := by decide +kernel
theorem dX5_digest_217 : decode cX5_digest 217 = .ok (.checkcast 117, 3) := by decide +kernel
theorem dX5_digest_220 : decode cX5_digest 220 = .ok (.iload 4, 2) := by decide +kernel
theorem dX5_digest_222 : decode cX5_digest 222 = .ok (.invokevirtual 156, 3) := by decide +kernel
theorem dX5_digest_225 : decode cX5_digest 225 = .ok (.i2l, 1) := by decide +kernel
theorem dX5_digest_226 : decode cX5_digest 226 = .ok (.ladd, 1) := by decide +kernel
theorem dX5_digest_227 : decode cX5_digest 227 = .ok (.lstore_n 1, 1) := by decide +kernel
theorem dX5_digest_228 : decode cX5_digest 228 = .ok (.iinc 4 1, 3) := by decide +kernel
theorem dX5_digest_231 : decode cX5_digest 231 = .ok (.goto (-41), 3) := by decide +kernel
theorem dX5_digest_234 : decode cX5_digest 234 = .ok (.iinc 3 1, 3) := by decide +kernel
theorem dX5_digest_237 : decode cX5_digest 237 = .ok (.goto (-64), 3) := by decide +kernel
theorem dX5_digest_240 : decode cX5_digest 240 = .ok (.lload_n 1, 1) := by decide +kernel
theorem dX5_digest_241 : decode cX5_digest 241 = .ok (.lreturn, 1) := by decide +kernel
theorem dX5_fallenIfAimed_0 : decode cX5_fallenIfAimed 0 = .ok (.aload_n 0, 1) := by decide +kernel
theorem dX5_fallenIfAimed_1 : decode cX5_fallenIfAimed 1 = .ok (.getfield 23, 3) := by decide +kernel
theorem dX5_fallenIfAimed_4 : decode cX5_fallenIfAimed 4 = .ok (.aload_n 0, 1) := by decide +kernel
theorem dX5_fallenIfAimed_5 : decode cX5_fallenIfAimed 5 = .ok (.getfield 19, 3) := by decide +kernel
theorem dX5_fallenIfAimed_8 : decode cX5_fallenIfAimed 8 = .ok (.invokevirtual 174, 3) := by decide +kernel
theorem dX5_fallenIfAimed_11 : decode cX5_fallenIfAimed 11 = .ok (.iload_n 1, 1) := by decide +kernel
theorem dX5_fallenIfAimed_12 : decode cX5_fallenIfAimed 12 = .ok (.ifCond .lt 38, 3) := by decide +kernel
theorem dX5_fallenIfAimed_15 : decode cX5_fallenIfAimed 15 = .ok (.iload_n 1, 1) := by decide +kernel
theorem dX5_fallenIfAimed_16 : decode cX5_fallenIfAimed 16 = .ok (.aload_n 0, 1) := by decide +kernel
theorem dX5_fallenIfAimed_17 : decode cX5_fallenIfAimed 17 = .ok (.getfield 23, 3) := by decide +kernel
theorem dX5_fallenIfAimed_20 : decode cX5_fallenIfAimed 20 = .ok (.getfield 114, 3) := by decide +kernel
theorem dX5_fallenIfAimed_23 : decode cX5_fallenIfAimed 23 = .ok (.invokevirtual 46, 3) := by decide +kernel
theorem dX5_fallenIfAimed_26 : decode cX5_fallenIfAimed 26 = .ok (.if_icmp .ge 24, 3) := by decide +kernel
theorem dX5_fallenIfAimed_29 : decode cX5_fallenIfAimed 29 = .ok (.aload_n 0, 1) := by decide +kernel
theorem dX5_fallenIfAimed_30 : decode cX5_fallenIfAimed 30 = .ok (.getfield 23, 3) := by decide +kernel
theorem dX5_fallenIfAimed_33 : decode cX5_fallenIfAimed 33 = .ok (.getfield 114, 3) := by decide +kernel
theorem dX5_fallenIfAimed_36 : decode cX5_fallenIfAimed 36 = .ok (.iload_n 1, 1) := by decide +kernel
theorem dX5_fallenIfAimed_37 : decode cX5_fallenIfAimed 37 = .ok (.invokevirtual 78, 3) := by decide +kernel
theorem dX5_fallenIfAimed_40 : decode cX5_fallenIfAimed 40 = .ok (.checkcast 117, 3) := by decide +kernel
theorem dX5_fallenIfAimed_43 : decode cX5_fallenIfAimed 43 = .ok (.bipush 100, 2) := by decide +kernel
theorem dX5_fallenIfAimed_45 : decode cX5_fallenIfAimed 45 = .ok (.iload_n 2, 1) := by decide +kernel
theorem dX5_fallenIfAimed_46 : decode cX5_fallenIfAimed 46 = .ok (.iadd, 1) := by decide +kernel
theorem dX5_fallenIfAimed_47 : decode cX5_fallenIfAimed 47 = .ok (.putfield 152, 3) := by decide +kernel
theorem dX5_fallenIfAimed_50 : decode cX5_fallenIfAimed 50 = .ok (.aload_n 0, 1) := by decide +kernel
theorem dX5_fallenIfAimed_51 : decode cX5_fallenIfAimed 51 = .ok (.getfield 23, 3) := by decide +kernel
theorem dX5_fallenIfAimed_54 : decode cX5_fallenIfAimed 54 = .ok (.iload_n 3, 1) := by decide +kernel
theorem dX5_fallenIfAimed_55 : decode cX5_fallenIfAimed 55 = .ok (.invokevirtual 170, 3) := by decide +kernel
theorem dX5_fallenIfAimed_58 : decode cX5_fallenIfAimed 58 = .ok (.pop, 1) := by decide +kernel
theorem dX5_fallenIfAimed_59 : decode cX5_fallenIfAimed 59 = .ok (.aload_n 0, 1) := by decide +kernel
theorem dX5_fallenIfAimed_60 : decode cX5_fallenIfAimed 60 = .ok (.getfield 23, 3) := by decide +kernel
theorem dX5_fallenIfAimed_63 : decode cX5_fallenIfAimed 63 = .ok (.iconst 3, 1) := by decide +kernel
theorem dX5_fallenIfAimed_64 : decode cX5_fallenIfAimed 64 = .ok (.invokevirtual 89, 3) := by decide +kernel
theorem dX5_fallenIfAimed_67 : decode cX5_fallenIfAimed 67 = .ok (.ireturn, 1) := by decide +kernel
theorem dX5_isFree_0 : decode cX5_isFree 0 = .ok (.aload_n 0, 1) := by decide +kernel
theorem dX5_isFree_1 : decode cX5_isFree 1 = .ok (.getfield 12, 3) := by decide +kernel
theorem dX5_isFree_4 : decode cX5_isFree 4 = .ok (.iload_n 1, 1) := by decide +kernel
theorem dX5_isFree_5 : decode cX5_isFree 5 = .ok (.invokevirtual 111, 3) := by decide +kernel
theorem dX5_isFree_8 : decode cX5_isFree 8 = .ok (.ifCond .eq 29, 3) := by decide +kernel
theorem dX5_isFree_11 : decode cX5_isFree 11 = .ok (.aload_n 0, 1) := by decide +kernel
theorem dX5_isFree_12 : decode cX5_isFree 12 = .ok (.getfield 19, 3) := by decide +kernel
theorem dX5_isFree_15 : decode cX5_isFree 15 = .ok (.iload_n 1, 1) := by decide +kernel
theorem dX5_isFree_16 : decode cX5_isFree 16 = .ok (.invokevirtual 102, 3) := by decide +kernel
theorem dX5_isFree_19 : decode cX5_isFree 19 = .ok (.ifCond .ne 18, 3) := by decide +kernel
theorem dX5_isFree_22 : decode cX5_isFree 22 = .ok (.aload_n 0, 1) := by decide +kernel
theorem dX5_isFree_23 : decode cX5_isFree 23 = .ok (.getfield 19, 3) := by decide +kernel
theorem dX5_isFree_26 : decode cX5_isFree 26 = .ok (.iload_n 1, 1) := by decide +kernel
theorem dX5_isFree_27 : decode cX5_isFree 27 = .ok (.invokevirtual 193, 3) := by decide +kernel
theorem dX5_isFree_30 : decode cX5_isFree 30 = .ok (.ifCond .ne 7, 3) := by decide +kernel
theorem dX5_isFree_33 : decode cX5_isFree 33 = .ok (.iconst 1, 1) := by decide +kernel
theorem dX5_isFree_34 : decode cX5_isFree 34 = .ok (.goto 4, 3) := by decide +kernel
theorem dX5_isFree_37 : decode cX5_isFree 37 = .ok (.iconst 0, 1) := by decide +kernel
theorem dX5_isFree_38 : decode cX5_isFree 38 = .ok (.ireturn, 1) := by decide +kernel
theorem dX5_requireHouse_0 : decode cX5_requireHouse 0 = .ok (.iload_n 1, 1) := by decide +kernel
theorem dX5_requireHouse_1 : decode cX5_requireHouse 1 = .ok (.ifCond .lt 17, 3) := by decide +kernel
theorem dX5_requireHouse_4 : decode cX5_requireHouse 4 = .ok (.iload_n 1, 1) := by decide +kernel
theorem dX5_requireHouse_5 : decode cX5_requireHouse 5 = .ok (.aload_n 0, 1) := by decide +kernel
theorem dX5_requireHouse_6 : decode cX5_requireHouse 6 = .ok (.getfield 19, 3) := by decide +kernel
theorem dX5_requireHouse_9 : decode cX5_requireHouse 9 = .ok (.getfield 42, 3) := by decide +kernel
theorem dX5_requireHouse_12 : decode cX5_requireHouse 12 = .ok (.invokevirtual 46, 3) := by decide +kernel
theorem dX5_requireHouse_15 : decode cX5_requireHouse 15 = .ok (.if_icmp .lt 13, 3) := by decide +kernel
theorem dX5_requireHouse_18 : decode cX5_requireHouse 18 = .ok (.new 160, 3) := by decide +kernel
theorem dX5_requireHouse_21 : decode cX5_requireHouse 21 = .ok (.dup, 1) := by decide +kernel
theorem dX5_requireHouse_22 : decode cX5_requireHouse 22 = .ok (.ldc 196, 2) := by decide +kernel
theorem dX5_requireHouse_24 : decode cX5_requireHouse 24 = .ok (.invokespecial 164, 3) := by decide +kernel
theorem dX5_requireHouse_27 : decode cX5_requireHouse 27 = .ok (.athrow, 1) := by decide +kernel
theorem dX5_requireHouse_28 : decode cX5_requireHouse 28 = .ok (.return_, 1) := by decide +kernel
theorem dX5_requireEngine_0 : decode cX5_requireEngine 0 = .ok (.iload_n 1, 1) := by decide +kernel
theorem dX5_requireEngine_1 : decode cX5_requireEngine 1 = .ok (.ifCond .lt 17, 3) := by decide +kernel
theorem dX5_requireEngine_4 : decode cX5_requireEngine 4 = .ok (.iload_n 1, 1) := by decide +kernel
theorem dX5_requireEngine_5 : decode cX5_requireEngine 5 = .ok (.aload_n 0, 1) := by decide +kernel
theorem dX5_requireEngine_6 : decode cX5_requireEngine 6 = .ok (.getfield 19, 3) := by decide +kernel
theorem dX5_requireEngine_9 : decode cX5_requireEngine 9 = .ok (.getfield 114, 3) := by decide +kernel
theorem dX5_requireEngine_12 : decode cX5_requireEngine 12 = .ok (.invokevirtual 46, 3) := by decide +kernel
theorem dX5_requireEngine_15 : decode cX5_requireEngine 15 = .ok (.if_icmp .lt 13, 3) := by decide +kernel
theorem dX5_requireEngine_18 : decode cX5_requireEngine 18 = .ok (.new 160, 3) := by decide +kernel
theorem dX5_requireEngine_21 : decode cX5_requireEngine 21 = .ok (.dup, 1) := by decide +kernel
theorem dX5_requireEngine_22 : decode cX5_requireEngine 22 = .ok (.ldc 198, 2) := by decide +kernel
theorem dX5_requireEngine_24 : decode cX5_requireEngine 24 = .ok (.invokespecial 164, 3) := by decide +kernel
theorem dX5_requireEngine_27 : decode cX5_requireEngine 27 = .ok (.athrow, 1) := by decide +kernel
theorem dX5_requireEngine_28 : decode cX5_requireEngine 28 = .ok (.return_, 1) := by decide +kernel
theorem dX5_requireCell_0 : decode cX5_requireCell 0 = .ok (.iload_n 0, 1) := by decide +kernel
theorem dX5_requireCell_1 : decode cX5_requireCell 1 = .ok (.iload_n 1, 1) := by decide +kernel
theorem dX5_requireCell_2 : decode cX5_requireCell 2 = .ok (.invokestatic 200, 3) := by decide +kernel
theorem dX5_requireCell_5 : decode cX5_requireCell 5 = .ok (.ifCond .ne 13, 3) := by decide +kernel
theorem dX5_requireCell_8 : decode cX5_requireCell 8 = .ok (.new 160, 3) := by decide +kernel
theorem dX5_requireCell_11 : decode cX5_requireCell 11 = .ok (.dup, 1) := by decide +kernel
theorem dX5_requireCell_12 : decode cX5_requireCell 12 = .ok (.ldc 203, 2) := by decide +kernel
theorem dX5_requireCell_14 : decode cX5_requireCell 14 = .ok (.invokespecial 164, 3) := by decide +kernel
theorem dX5_requireCell_17 : decode cX5_requireCell 17 = .ok (.athrow, 1) := by decide +kernel
theorem dX5_requireCell_18 : decode cX5_requireCell 18 = .ok (.return_, 1) := by decide +kernel
theorem dX5_requireQuestion_0 : decode cX5_requireQuestion 0 = .ok (.iload_n 0, 1) := by decide +kernel
theorem dX5_requireQuestion_1 : decode cX5_requireQuestion 1 = .ok (.ifCond .lt 8, 3) := by decide +kernel
theorem dX5_requireQuestion_4 : decode cX5_requireQuestion 4 = .ok (.iload_n 0, 1) := by decide +kernel
theorem dX5_requireQuestion_5 : decode cX5_requireQuestion 5 = .ok (.iload_n 1, 1) := by decide +kernel
theorem dX5_requireQuestion_6 : decode cX5_requireQuestion 6 = .ok (.if_icmp .le 13, 3) := by decide +kernel
theorem dX5_requireQuestion_9 : decode cX5_requireQuestion 9 = .ok (.new 160, 3) := by decide +kernel
theorem dX5_requireQuestion_12 : decode cX5_requireQuestion 12 = .ok (.dup, 1) := by decide +kernel
theorem dX5_requireQuestion_13 : decode cX5_requireQuestion 13 = .ok (.ldc 205, 2) := by decide +kernel
theorem dX5_requireQuestion_15 : decode cX5_requireQuestion 15 = .ok (.invokespecial 164, 3) := by decide +kernel
theorem dX5_requireQuestion_18 : decode cX5_requireQuestion 18 = .ok (.athrow, 1) := by decide +kernel
theorem dX5_requireQuestion_19 : decode cX5_requireQuestion 19 = .ok (.return_, 1) := by decide +kernel
theorem dX5_requireRange_0 : decode cX5_requireRange 0 = .ok (.iload_n 0, 1) := by decide +kernel
theorem dX5_requireRange_1 : decode cX5_requireRange 1 = .ok (.iload_n 1, 1) := by decide +kernel
theorem dX5_requireRange_2 : decode cX5_requireRange 2 = .ok (.if_icmp .lt 8, 3) := by decide +kernel
theorem dX5_requireRange_5 : decode cX5_requireRange 5 = .ok (.iload_n 0, 1) := by decide +kernel
theorem dX5_requireRange_6 : decode cX5_requireRange 6 = .ok (.iload_n 2, 1) := by decide +kernel
theorem dX5_requireRange_7 : decode cX5_requireRange 7 = .ok (.if_icmp .le 13, 3) := by decide +kernel
theorem dX5_requireRange_10 : decode cX5_requireRange 10 = .ok (.new 207, 3) := by decide +kernel
theorem dX5_requireRange_13 : decode cX5_requireRange 13 = .ok (.dup, 1) := by decide +kernel
theorem dX5_requireRange_14 : decode cX5_requireRange 14 = .ok (.ldc 209, 2) := by decide +kernel
theorem dX5_requireRange_16 : decode cX5_requireRange 16 = .ok (.invokespecial 211, 3) := by decide +kernel
theorem dX5_requireRange_19 : decode cX5_requireRange 19 = .ok (.athrow, 1) := by decide +kernel
theorem dX5_requireRange_20 : decode cX5_requireRange 20 = .ok (.return_, 1) := by decide +kernel
theorem dX5_requireState_0 : decode cX5_requireState 0 = .ok (.iload_n 0, 1) := by decide +kernel
theorem dX5_requireState_1 : decode cX5_requireState 1 = .ok (.ifCond .ne 13, 3) := by decide +kernel
theorem dX5_requireState_4 : decode cX5_requireState 4 = .ok (.new 212, 3) := by decide +kernel
theorem dX5_requireState_7 : decode cX5_requireState 7 = .ok (.dup, 1) := by decide +kernel
theorem dX5_requireState_8 : decode cX5_requireState 8 = .ok (.ldc 214, 2) := by decide +kernel
theorem dX5_requireState_10 : decode cX5_requireState 10 = .ok (.invokespecial 216, 3) := by decide +kernel
theorem dX5_requireState_13 : decode cX5_requireState 13 = .ok (.athrow, 1) := by decide +kernel
theorem dX5_requireState_14 : decode cX5_requireState 14 = .ok (.return_, 1) := by decide +kernel
theorem dX5_isOnMap_0 : decode cX5_isOnMap 0 = .ok (.iload_n 0, 1) := by decide +kernel
theorem dX5_isOnMap_1 : decode cX5_isOnMap 1 = .ok (.ifCond .lt 23, 3) := by decide +kernel
theorem dX5_isOnMap_4 : decode cX5_isOnMap 4 = .ok (.iload_n 0, 1) := by decide +kernel
theorem dX5_isOnMap_5 : decode cX5_isOnMap 5 = .ok (.bipush 14, 2) := by decide +kernel
theorem dX5_isOnMap_7 : decode cX5_isOnMap 7 = .ok (.if_icmp .ge 17, 3) := by decide +kernel
theorem dX5_isOnMap_10 : decode cX5_isOnMap 10 = .ok (.iload_n 1, 1) := by decide +kernel
theorem dX5_isOnMap_11 : decode cX5_isOnMap 11 = .ok (.ifCond .lt 13, 3) := by decide +kernel
theorem dX5_isOnMap_14 : decode cX5_isOnMap 14 = .ok (.iload_n 1, 1) := by decide +kernel
theorem dX5_isOnMap_15 : decode cX5_isOnMap 15 = .ok (.bipush 10, 2) := by decide +kernel
theorem dX5_isOnMap_17 : decode cX5_isOnMap 17 = .ok (.if_icmp .ge 7, 3) := by decide +kernel
theorem dX5_isOnMap_20 : decode cX5_isOnMap 20 = .ok (.iconst 1, 1) := by decide +kernel
theorem dX5_isOnMap_21 : decode cX5_isOnMap 21 = .ok (.goto 4, 3) := by decide +kernel
theorem dX5_isOnMap_24 : decode cX5_isOnMap 24 = .ok (.iconst 0, 1) := by decide +kernel
theorem dX5_isOnMap_25 : decode cX5_isOnMap 25 = .ok (.ireturn, 1) := by decide +kernel
theorem dX5_cellAt_0 : decode cX5_cellAt 0 = .ok (.iload_n 0, 1) := by decide +kernel
theorem dX5_cellAt_1 : decode cX5_cellAt 1 = .ok (.bipush 14, 2) := by decide +kernel
theorem dX5_cellAt_3 : decode cX5_cellAt 3 = .ok (.iload_n 1, 1) := by decide +kernel
theorem dX5_cellAt_4 : decode cX5_cellAt 4 = .ok (.imul, 1) := by decide +kernel
theorem dX5_cellAt_5 : decode cX5_cellAt 5 = .ok (.iadd, 1) := by decide +kernel
theorem dX5_cellAt_6 : decode cX5_cellAt 6 = .ok (.ireturn, 1) := by decide +kernel
theorem dX5_distance_0 : decode cX5_distance 0 = .ok (.iload_n 0, 1) := by decide +kernel
theorem dX5_distance_1 : decode cX5_distance 1 = .ok (.bipush 14, 2) := by decide +kernel
theorem dX5_distance_3 : decode cX5_distance 3 = .ok (.irem, 1) := by decide +kernel
theorem dX5_distance_4 : decode cX5_distance 4 = .ok (.iload_n 1, 1) := by decide +kernel
theorem dX5_distance_5 : decode cX5_distance 5 = .ok (.bipush 14, 2) := by decide +kernel
theorem dX5_distance_7 : decode cX5_distance 7 = .ok (.irem, 1) := by decide +kernel
theorem dX5_distance_8 : decode cX5_distance 8 = .ok (.isub, 1) := by decide +kernel
theorem dX5_distance_9 : decode cX5_distance 9 = .ok (.invokestatic 217, 3) := by decide +kernel
theorem dX5_distance_12 : decode cX5_distance 12 = .ok (.iload_n 0, 1) := by decide +kernel
theorem dX5_distance_13 : decode cX5_distance 13 = .ok (.bipush 14, 2) := by decide +kernel
theorem dX5_distance_15 : decode cX5_distance 15 = .ok (.idiv, 1) := by decide +kernel
theorem dX5_distance_16 : decode cX5_distance 16 = .ok (.iload_n 1, 1) := by decide +kernel
theorem dX5_distance_17 : decode cX5_distance 17 = .ok (.bipush 14, 2) := by decide +kernel
theorem dX5_distance_19 : decode cX5_distance 19 = .ok (.idiv, 1) := by decide +kernel
theorem dX5_distance_20 : decode cX5_distance 20 = .ok (.isub, 1) := by decide +kernel
theorem dX5_distance_21 : decode cX5_distance 21 = .ok (.invokestatic 217, 3) := by decide +kernel
theorem dX5_distance_24 : decode cX5_distance 24 = .ok (.iadd, 1) := by decide +kernel
theorem dX5_distance_25 : decode cX5_distance 25 = .ok (.ireturn, 1) := by decide +kernel
theorem dX5_areNear_0 : decode cX5_areNear 0 = .ok (.iload_n 0, 1) := by decide +kernel
theorem dX5_areNear_1 : decode cX5_areNear 1 = .ok (.bipush 14, 2) := by decide +kernel
theorem dX5_areNear_3 : decode cX5_areNear 3 = .ok (.irem, 1) := by decide +kernel
theorem dX5_areNear_4 : decode cX5_areNear 4 = .ok (.iload_n 1, 1) := by decide +kernel
theorem dX5_areNear_5 : decode cX5_areNear 5 = .ok (.bipush 14, 2) := by decide +kernel
theorem dX5_areNear_7 : decode cX5_areNear 7 = .ok (.irem, 1) := by decide +kernel
theorem dX5_areNear_8 : decode cX5_areNear 8 = .ok (.isub, 1) := by decide +kernel
theorem dX5_areNear_9 : decode cX5_areNear 9 = .ok (.istore_n 2, 1) := by decide +kernel
theorem dX5_areNear_10 : decode cX5_areNear 10 = .ok (.iload_n 0, 1) := by decide +kernel
theorem dX5_areNear_11 : decode cX5_areNear 11 = .ok (.bipush 14, 2) := by decide +kernel
theorem dX5_areNear_13 : decode cX5_areNear 13 = .ok (.idiv, 1) := by decide +kernel
theorem dX5_areNear_14 : decode cX5_areNear 14 = .ok (.iload_n 1, 1) := by decide +kernel
theorem dX5_areNear_15 : decode cX5_areNear 15 = .ok (.bipush 14, 2) := by decide +kernel
theorem dX5_areNear_17 : decode cX5_areNear 17 = .ok (.idiv, 1) := by decide +kernel
theorem dX5_areNear_18 : decode cX5_areNear 18 = .ok (.isub, 1) := by decide +kernel
theorem dX5_areNear_19 : decode cX5_areNear 19 = .ok (.istore_n 3, 1) := by decide +kernel
theorem dX5_areNear_20 : decode cX5_areNear 20 = .ok (.iload_n 0, 1) := by decide +kernel
theorem dX5_areNear_21 : decode cX5_areNear 21 = .ok (.iload_n 1, 1) := by decide +kernel
theorem dX5_areNear_22 : decode cX5_areNear 22 = .ok (.if_icmp .eq 21, 3) := by decide +kernel
theorem dX5_areNear_25 : decode cX5_areNear 25 = .ok (.iload_n 2, 1) := by decide +kernel
theorem dX5_areNear_26 : decode cX5_areNear 26 = .ok (.iload_n 2, 1) := by decide +kernel
theorem dX5_areNear_27 : decode cX5_areNear 27 = .ok (.imul, 1) := by decide +kernel
theorem dX5_areNear_28 : decode cX5_areNear 28 = .ok (.iconst 1, 1) := by decide +kernel
theorem dX5_areNear_29 : decode cX5_areNear 29 = .ok (.if_icmp .gt 14, 3) := by decide +kernel
theorem dX5_areNear_32 : decode cX5_areNear 32 = .ok (.iload_n 3, 1) := by decide +kernel
theorem dX5_areNear_33 : decode cX5_areNear 33 = .ok (.iload_n 3, 1) := by decide +kernel
theorem dX5_areNear_34 : decode cX5_areNear 34 = .ok (.imul, 1) := by decide +kernel
theorem dX5_areNear_35 : decode cX5_areNear 35 = .ok (.iconst 1, 1) := by decide +kernel
theorem dX5_areNear_36 : decode cX5_areNear 36 = .ok (.if_icmp .gt 7, 3) := by decide +kernel
theorem dX5_areNear_39 : decode cX5_areNear 39 = .ok (.iconst 1, 1) := by decide +kernel
theorem dX5_areNear_40 : decode cX5_areNear 40 = .ok (.goto 4, 3) := by decide +kernel
theorem dX5_areNear_43 : decode cX5_areNear 43 = .ok (.iconst 0, 1) := by decide +kernel
theorem dX5_areNear_44 : decode cX5_areNear 44 = .ok (.ireturn, 1) := by decide +kernel
theorem dX6_init_0 : decode cX6_init 0 = .ok (.aload_n 0, 1) := by decide +kernel
theorem dX6_init_1 : decode cX6_init 1 = .ok (.invokespecial 1, 3) := by decide +kernel
theorem dX6_init_4 : decode cX6_init 4 = .ok (.aload_n 0, 1) := by decide +kernel
theorem dX6_init_5 : decode cX6_init 5 = .ok (.bipush 6, 2) := by decide +kernel
theorem dX6_init_7 : decode cX6_init 7 = .ok (.newarray .int, 2) := by decide +kernel
theorem dX6_init_9 : decode cX6_init 9 = .ok (.putfield 9, 3) := by decide +kernel
theorem dX6_init_12 : decode cX6_init 12 = .ok (.aload_n 0, 1) := by decide +kernel
theorem dX6_init_13 : decode cX6_init 13 = .ok (.bipush 6, 2) := by decide +kernel
theorem dX6_init_15 : decode cX6_init 15 = .ok (.newarray .int, 2) := by decide +kernel
theorem dX6_init_17 : decode cX6_init 17 = .ok (.putfield 13, 3) := by decide +kernel
theorem dX6_init_20 : decode cX6_init 20 = .ok (.aload_n 0, 1) := by decide +kernel
theorem dX6_init_21 : decode cX6_init 21 = .ok (.sipush 210, 3) := by decide +kernel
theorem dX6_init_24 : decode cX6_init 24 = .ok (.newarray .int, 2) := by decide +kernel
theorem dX6_init_26 : decode cX6_init 26 = .ok (.putfield 16, 3) := by decide +kernel
theorem dX6_init_29 : decode cX6_init 29 = .ok (.aload_n 0, 1) := by decide +kernel
theorem dX6_init_30 : decode cX6_init 30 = .ok (.bipush 54, 2) := by decide +kernel
theorem dX6_init_32 : decode cX6_init 32 = .ok (.newarray .int, 2) := by decide +kernel
theorem dX6_init_34 : decode cX6_init 34 = .ok (.putfield 19, 3) := by decide +kernel
theorem dX6_init_37 : decode cX6_init 37 = .ok (.aload_n 0, 1) := by decide +kernel
theorem dX6_init_38 : decode cX6_init 38 = .ok (.iconst 1, 1) := by decide +kernel
theorem dX6_init_39 : decode cX6_init 39 = .ok (.newarray .int, 2) := by decide +kernel
theorem dX6_init_41 : decode cX6_init 41 = .ok (.dup, 1) := by decide +kernel
theorem dX6_init_42 : decode cX6_init 42 = .ok (.iconst 0, 1) := by decide +kernel
theorem dX6_init_43 : decode cX6_init 43 = .ok (.iconst 0, 1) := by decide +kernel
theorem dX6_init_44 : decode cX6_init 44 = .ok (.iastore, 1) := by decide +kernel
theorem dX6_init_45 : decode cX6_init 45 = .ok (.putfield 22, 3) := by decide +kernel
theorem dX6_init_48 : decode cX6_init 48 = .ok (.aload_n 0, 1) := by decide +kernel
theorem dX6_init_49 : decode cX6_init 49 = .ok (.bipush 6, 2) := by decide +kernel
theorem dX6_init_51 : decode cX6_init 51 = .ok (.newarray .int, 2) := by decide +kernel
theorem dX6_init_53 : decode cX6_init 53 = .ok (.putfield 25, 3) := by decide +kernel
theorem dX6_init_56 : decode cX6_init 56 = .ok (.aload_n 0, 1) := by decide +kernel
theorem dX6_init_57 : decode cX6_init 57 = .ok (.bipush 6, 2) := by decide +kernel
theorem dX6_init_59 : decode cX6_init 59 = .ok (.newarray .boolean, 2) := by decide +kernel
theorem dX6_init_61 : decode cX6_init 61 = .ok (.putfield 28, 3) := by decide +kernel
theorem dX6_init_64 : decode cX6_init 64 = .ok (.aload_n 0, 1) := by decide +kernel
theorem dX6_init_65 : decode cX6_init 65 = .ok (.sipush 140, 3) := by decide +kernel
theorem dX6_init_68 : decode cX6_init 68 = .ok (.newarray .int, 2) := by decide +kernel
theorem dX6_init_70 : decode cX6_init 70 = .ok (.putfield 32, 3) := by decide +kernel
theorem dX6_init_73 : decode cX6_init 73 = .ok (.aload_n 0, 1) := by decide +kernel
theorem dX6_init_74 : decode cX6_init 74 = .ok (.bipush 30, 2) := by decide +kernel
theorem dX6_init_76 : decode cX6_init 76 = .ok (.newarray .boolean, 2) := by decide +kernel
theorem dX6_init_78 : decode cX6_init 78 = .ok (.putfield 35, 3) := by decide +kernel
theorem dX6_init_81 : decode cX6_init 81 = .ok (.return_, 1) := by decide +kernel
theorem dX6_thrown_0 : decode cX6_thrown 0 = .ok (.aload_n 0, 1) := by decide +kernel
theorem dX6_thrown_1 : decode cX6_thrown 1 = .ok (.getfield 38, 3) := by decide +kernel
theorem dX6_thrown_4 : decode cX6_thrown 4 = .ok (.ireturn, 1) := by decide +kernel
theorem dX6_fail_0 : decode cX6_fail 0 = .ok (.aload_n 0, 1) := by decide +kernel
theorem dX6_fail_1 : decode cX6_fail 1 = .ok (.iload_n 1, 1) := by decide +kernel
theorem dX6_fail_2 : decode cX6_fail 2 = .ok (.putfield 38, 3) := by decide +kernel
theorem dX6_fail_5 : decode cX6_fail 5 = .ok (.iconst 0, 1) := by decide +kernel
theorem dX6_fail_6 : decode cX6_fail 6 = .ok (.ireturn, 1) := by decide +kernel
theorem dX6_isIn_0 : decode cX6_isIn 0 = .ok (.iload_n 0, 1) := by decide +kernel
theorem dX6_isIn_1 : decode cX6_isIn 1 = .ok (.iload_n 1, 1) := by decide +kernel
theorem dX6_isIn_2 : decode cX6_isIn 2 = .ok (.if_icmp .lt 12, 3) := by decide +kernel
theorem dX6_isIn_5 : decode cX6_isIn 5 = .ok (.iload_n 0, 1) := by decide +kernel
theorem dX6_isIn_6 : decode cX6_isIn 6 = .ok (.iload_n 2, 1) := by decide +kernel
theorem dX6_isIn_7 : decode cX6_isIn 7 = .ok (.if_icmp .gt 7, 3) := by decide +kernel
theorem dX6_isIn_10 : decode cX6_isIn 10 = .ok (.iconst 1, 1) := by decide +kernel
theorem dX6_isIn_11 : decode cX6_isIn 11 = .ok (.goto 4, 3) := by decide +kernel
theorem dX6_isIn_14 : decode cX6_isIn 14 = .ok (.iconst 0, 1) := by decide +kernel
theorem dX6_isIn_15 : decode cX6_isIn 15 = .ok (.ireturn, 1) := by decide +kernel
theorem dX6_isCell_0 : decode cX6_isCell 0 = .ok (.iload_n 0, 1) := by decide +kernel
theorem dX6_isCell_1 : decode cX6_isCell 1 = .ok (.iconst 0, 1) := by decide +kernel
theorem dX6_isCell_2 : decode cX6_isCell 2 = .ok (.bipush 13, 2) := by decide +kernel
theorem dX6_isCell_4 : decode cX6_isCell 4 = .ok (.invokestatic 42, 3) := by decide +kernel
theorem dX6_isCell_7 : decode cX6_isCell 7 = .ok (.ifCond .eq 17, 3) := by decide +kernel
theorem dX6_isCell_10 : decode cX6_isCell 10 = .ok (.iload_n 1, 1) := by decide +kernel
theorem dX6_isCell_11 : decode cX6_isCell 11 = .ok (.iconst 0, 1) := by decide +kernel
theorem dX6_isCell_12 : decode cX6_isCell 12 = .ok (.bipush 9, 2) := by decide +kernel
theorem dX6_isCell_14 : decode cX6_isCell 14 = .ok (.invokestatic 42, 3) := by decide +kernel
theorem dX6_isCell_17 : decode cX6_isCell 17 = .ok (.ifCond .eq 7, 3) := by decide +kernel
theorem dX6_isCell_20 : decode cX6_isCell 20 = .ok (.iconst 1, 1) := by decide +kernel
theorem dX6_isCell_21 : decode cX6_isCell 21 = .ok (.goto 4, 3) := by decide +kernel
theorem dX6_isCell_24 : decode cX6_isCell 24 = .ok (.iconst 0, 1) := by decide +kernel
theorem dX6_isCell_25 : decode cX6_isCell 25 = .ok (.ireturn, 1) := by decide +kernel
theorem dX6_columns_0 : decode cX6_columns 0 = .ok (.iload_n 0, 1) := by decide +kernel
theorem dX6_columns_1 : decode cX6_columns 1 = .ok (.bipush 14, 2) := by decide +kernel
theorem dX6_columns_3 : decode cX6_columns 3 = .ok (.irem, 1) := by decide +kernel
theorem dX6_columns_4 : decode cX6_columns 4 = .ok (.iload_n 1, 1) := by decide +kernel
theorem dX6_columns_5 : decode cX6_columns 5 = .ok (.bipush 14, 2) := by decide +kernel
theorem dX6_columns_7 : decode cX6_columns 7 = .ok (.irem, 1) := by decide +kernel
theorem dX6_columns_8 : decode cX6_columns 8 = .ok (.isub, 1) := by decide +kernel
theorem dX6_columns_9 : decode cX6_columns 9 = .ok (.invokestatic 46, 3) := by decide +kernel
theorem dX6_columns_12 : decode cX6_columns 12 = .ok (.ireturn, 1) := by decide +kernel
theorem dX6_rows_0 : decode cX6_rows 0 = .ok (.iload_n 0, 1) := by decide +kernel
theorem dX6_rows_1 : decode cX6_rows 1 = .ok (.bipush 14, 2) := by decide +kernel
theorem dX6_rows_3 : decode cX6_rows 3 = .ok (.idiv, 1) := by decide +kernel
theorem dX6_rows_4 : decode cX6_rows 4 = .ok (.iload_n 1, 1) := by decide +kernel
theorem dX6_rows_5 : decode cX6_rows 5 = .ok (.bipush 14, 2) := by decide +kernel
theorem dX6_rows_7 : decode cX6_rows 7 = .ok (.idiv, 1) := by decide +kernel
theorem dX6_rows_8 : decode cX6_rows 8 = .ok (.isub, 1) := by decide +kernel
theorem dX6_rows_9 : decode cX6_rows 9 = .ok (.invokestatic 46, 3) := by decide +kernel
theorem dX6_rows_12 : decode cX6_rows 12 = .ok (.ireturn, 1) := by decide +kernel
theorem dX6_isNear_0 : decode cX6_isNear 0 = .ok (.iload_n 0, 1) := by decide +kernel
theorem dX6_isNear_1 : decode cX6_isNear 1 = .ok (.iload_n 1, 1) := by decide +kernel
theorem dX6_isNear_2 : decode cX6_isNear 2 = .ok (.if_icmp .eq 25, 3) := by decide +kernel
theorem dX6_isNear_5 : decode cX6_isNear 5 = .ok (.iload_n 0, 1) := by decide +kernel
theorem dX6_isNear_6 : decode cX6_isNear 6 = .ok (.iload_n 1, 1) := by decide +kernel
theorem dX6_isNear_7 : decode cX6_isNear 7 = .ok (.invokestatic 52, 3) := by decide +kernel
theorem dX6_isNear_10 : decode cX6_isNear 10 = .ok (.iconst 1, 1) := by decide +kernel
theorem dX6_isNear_11 : decode cX6_isNear 11 = .ok (.if_icmp .gt 16, 3) := by decide +kernel
theorem dX6_isNear_14 : decode cX6_isNear 14 = .ok (.iload_n 0, 1) := by decide +kernel
theorem dX6_isNear_15 : decode cX6_isNear 15 = .ok (.iload_n 1, 1) := by decide +kernel
theorem dX6_isNear_16 : decode cX6_isNear 16 = .ok (.invokestatic 56, 3) := by decide +kernel
theorem dX6_isNear_19 : decode cX6_isNear 19 = .ok (.iconst 1, 1) := by decide +kernel
theorem dX6_isNear_20 : decode cX6_isNear 20 = .ok (.if_icmp .gt 7, 3) := by decide +kernel
theorem dX6_isNear_23 : decode cX6_isNear 23 = .ok (.iconst 1, 1) := by decide +kernel
theorem dX6_isNear_24 : decode cX6_isNear 24 = .ok (.goto 4, 3) := by decide +kernel
theorem dX6_isNear_27 : decode cX6_isNear 27 = .ok (.iconst 0, 1) := by decide +kernel
theorem dX6_isNear_28 : decode cX6_isNear 28 = .ok (.ireturn, 1) := by decide +kernel
theorem dX6_far_0 : decode cX6_far 0 = .ok (.iload_n 0, 1) := by decide +kernel
theorem dX6_far_1 : decode cX6_far 1 = .ok (.iload_n 1, 1) := by decide +kernel
theorem dX6_far_2 : decode cX6_far 2 = .ok (.invokestatic 52, 3) := by decide +kernel
theorem dX6_far_5 : decode cX6_far 5 = .ok (.iload_n 0, 1) := by decide +kernel
theorem dX6_far_6 : decode cX6_far 6 = .ok (.iload_n 1, 1) := by decide +kernel
theorem dX6_far_7 : decode cX6_far 7 = .ok (.invokestatic 56, 3) := by decide +kernel
theorem dX6_far_10 : decode cX6_far 10 = .ok (.iadd, 1) := by decide +kernel
theorem dX6_far_11 : decode cX6_far 11 = .ok (.ireturn, 1) := by decide +kernel
theorem dX6_isHouse_0 : decode cX6_isHouse 0 = .ok (.iload_n 1, 1) := by decide +kernel
theorem dX6_isHouse_1 : decode cX6_isHouse 1 = .ok (.iconst 0, 1) := by decide +kernel
theorem dX6_isHouse_2 : decode cX6_isHouse 2 = .ok (.aload_n 0, 1) := by decide +kernel
theorem dX6_isHouse_3 : decode cX6_isHouse 3 = .ok (.getfield 59, 3) := by decide +kernel
theorem dX6_isHouse_6 : decode cX6_isHouse 6 = .ok (.iconst 1, 1) := by decide +kernel
theorem dX6_isHouse_7 : decode cX6_isHouse 7 = .ok (.isub, 1) := by decide +kernel
theorem dX6_isHouse_8 : decode cX6_isHouse 8 = .ok (.invokestatic 42, 3) := by decide +kernel
theorem dX6_isHouse_11 : decode cX6_isHouse 11 = .ok (.ireturn, 1) := by decide +kernel
theorem dX6_isEngine_0 : decode cX6_isEngine 0 = .ok (.iload_n 1, 1) := by decide +kernel
theorem dX6_isEngine_1 : decode cX6_isEngine 1 = .ok (.iconst 0, 1) := by decide +kernel
theorem dX6_isEngine_2 : decode cX6_isEngine 2 = .ok (.aload_n 0, 1) := by decide +kernel
theorem dX6_isEngine_3 : decode cX6_isEngine 3 = .ok (.getfield 62, 3) := by decide +kernel
theorem dX6_isEngine_6 : decode cX6_isEngine 6 = .ok (.iconst 1, 1) := by decide +kernel
theorem dX6_isEngine_7 : decode cX6_isEngine 7 = .ok (.isub, 1) := by decide +kernel
theorem dX6_isEngine_8 : decode cX6_isEngine 8 = .ok (.invokestatic 42, 3) := by decide +kernel
theorem dX6_isEngine_11 : decode cX6_isEngine 11 = .ok (.ireturn, 1) := by decide +kernel
theorem dX6_ho_0 : decode cX6_ho 0 = .ok (.aload_n 0, 1) := by decide +kernel
theorem dX6_ho_1 : decode cX6_ho 1 = .ok (.getfield 16, 3) := by decide +kernel
theorem dX6_ho_4 : decode cX6_ho 4 = .ok (.bipush 7, 2) := by decide +kernel
theorem dX6_ho_6 : decode cX6_ho 6 = .ok (.iload_n 1, 1) := by decide +kernel
theorem dX6_ho_7 : decode cX6_ho 7 = .ok (.imul, 1) := by decide +kernel
theorem dX6_ho_8 : decode cX6_ho 8 = .ok (.iload_n 2, 1) := by decide +kernel
theorem dX6_ho_9 : decode cX6_ho 9 = .ok (.iadd, 1) := by decide +kernel
theorem dX6_ho_10 : decode cX6_ho 10 = .ok (.iaload, 1) := by decide +kernel
theorem dX6_ho_11 : decode cX6_ho 11 = .ok (.ireturn, 1) := by decide +kernel
theorem dX6_setHo_0 : decode cX6_setHo 0 = .ok (.aload_n 0, 1) := by decide +kernel
theorem dX6_setHo_1 : decode cX6_setHo 1 = .ok (.getfield 16, 3) := by decide +kernel
theorem dX6_setHo_4 : decode cX6_setHo 4 = .ok (.bipush 7, 2) := by decide +kernel
theorem dX6_setHo_6 : decode cX6_setHo 6 = .ok (.iload_n 1, 1) := by decide +kernel
theorem dX6_setHo_7 : decode cX6_setHo 7 = .ok (.imul, 1) := by decide +kernel
theorem dX6_setHo_8 : decode cX6_setHo 8 = .ok (.iload_n 2, 1) := by decide +kernel
theorem dX6_setHo_9 : decode cX6_setHo 9 = .ok (.iadd, 1) := by decide +kernel
theorem dX6_setHo_10 : decode cX6_setHo 10 = .ok (.iload_n 3, 1) := by decide +kernel
theorem dX6_setHo_11 : decode cX6_setHo 11 = .ok (.iastore, 1) := by decide +kernel
theorem dX6_setHo_12 : decode cX6_setHo 12 = .ok (.return_, 1) := by decide +kernel
theorem dX6_en_0 : decode cX6_en 0 = .ok (.aload_n 0, 1) := by decide +kernel
theorem dX6_en_1 : decode cX6_en 1 = .ok (.getfield 19, 3) := by decide +kernel
theorem dX6_en_4 : decode cX6_en 4 = .ok (.bipush 9, 2) := by decide +kernel
theorem dX6_en_6 : decode cX6_en 6 = .ok (.iload_n 1, 1) := by decide +kernel
theorem dX6_en_7 : decode cX6_en 7 = .ok (.imul, 1) := by decide +kernel
theorem dX6_en_8 : decode cX6_en 8 = .ok (.iload_n 2, 1) := by decide +kernel
theorem dX6_en_9 : decode cX6_en 9 = .ok (.iadd, 1) := by decide +kernel
theorem dX6_en_10 : decode cX6_en 10 = .ok (.iaload, 1) := by decide +kernel
theorem dX6_en_11 : decode cX6_en 11 = .ok (.ireturn, 1) := by decide +kernel
theorem dX6_setEn_0 : decode cX6_setEn 0 = .ok (.aload_n 0, 1) := by decide +kernel
theorem dX6_setEn_1 : decode cX6_setEn 1 = .ok (.getfield 19, 3) := by decide +kernel
theorem dX6_setEn_4 : decode cX6_setEn 4 = .ok (.bipush 9, 2) := by decide +kernel
theorem dX6_setEn_6 : decode cX6_setEn 6 = .ok (.iload_n 1, 1) := by decide +kernel
theorem dX6_setEn_7 : decode cX6_setEn 7 = .ok (.imul, 1) := by decide +kernel
theorem dX6_setEn_8 : decode cX6_setEn 8 = .ok (.iload_n 2, 1) := by decide +kernel
theorem dX6_setEn_9 : decode cX6_setEn 9 = .ok (.iadd, 1) := by decide +kernel
theorem dX6_setEn_10 : decode cX6_setEn 10 = .ok (.iload_n 3, 1) := by decide +kernel
theorem dX6_setEn_11 : decode cX6_setEn 11 = .ok (.iastore, 1) := by decide +kernel
theorem dX6_setEn_12 : decode cX6_setEn 12 = .ok (.return_, 1) := by decide +kernel
theorem dX6_houseAt_0 : decode cX6_houseAt 0 = .ok (.iconst 0, 1) := by decide +kernel
theorem dX6_houseAt_1 : decode cX6_houseAt 1 = .ok (.istore_n 2, 1) := by decide +kernel
theorem dX6_houseAt_2 : decode cX6_houseAt 2 = .ok (.iload_n 2, 1) := by decide +kernel
theorem dX6_houseAt_3 : decode cX6_houseAt 3 = .ok (.aload_n 0, 1) := by decide +kernel
theorem dX6_houseAt_4 : decode cX6_houseAt 4 = .ok (.getfield 59, 3) := by decide +kernel
theorem dX6_houseAt_7 : decode cX6_houseAt 7 = .ok (.if_icmp .ge 21, 3) := by decide +kernel
theorem dX6_houseAt_10 : decode cX6_houseAt 10 = .ok (.aload_n 0, 1) := by decide +kernel
theorem dX6_houseAt_11 : decode cX6_houseAt 11 = .ok (.iload_n 2, 1) := by decide +kernel
theorem dX6_houseAt_12 : decode cX6_houseAt 12 = .ok (.iconst 0, 1) := by decide +kernel
theorem dX6_houseAt_13 : decode cX6_houseAt 13 = .ok (.invokevirtual 65, 3) := by decide +kernel
theorem dX6_houseAt_16 : decode cX6_houseAt 16 = .ok (.iload_n 1, 1) := by decide +kernel
theorem dX6_houseAt_17 : decode cX6_houseAt 17 = .ok (.if_icmp .ne 5, 3) := by decide +kernel
theorem dX6_houseAt_20 : decode cX6_houseAt 20 = .ok (.iload_n 2, 1) := by decide +kernel
theorem dX6_houseAt_21 : decode cX6_houseAt 21 = .ok (.ireturn, 1) := by decide +kernel
theorem dX6_houseAt_22 : decode cX6_houseAt 22 = .ok (.iinc 2 1, 3) := by decide +kernel
theorem dX6_houseAt_25 : decode cX6_houseAt 25 = .ok (.goto (-23), 3) := by decide +kernel
theorem dX6_houseAt_28 : decode cX6_houseAt 28 = .ok (.iconst (-1), 1) := by decide +kernel
theorem dX6_houseAt_29 : decode cX6_houseAt 29 = .ok (.ireturn, 1) := by decide +kernel
theorem dX6_pondAt_0 : decode cX6_pondAt 0 = .ok (.iconst 0, 1) := by decide +kernel
theorem dX6_pondAt_1 : decode cX6_pondAt 1 = .ok (.istore_n 2, 1) := by decide +kernel
theorem dX6_pondAt_2 : decode cX6_pondAt 2 = .ok (.iload_n 2, 1) := by decide +kernel
theorem dX6_pondAt_3 : decode cX6_pondAt 3 = .ok (.aload_n 0, 1) := by decide +kernel
theorem dX6_pondAt_4 : decode cX6_pondAt 4 = .ok (.getfield 68, 3) := by decide +kernel
theorem dX6_pondAt_7 : decode cX6_pondAt 7 = .ok (.if_icmp .ge 21, 3) := by decide +kernel
theorem dX6_pondAt_10 : decode cX6_pondAt 10 = .ok (.aload_n 0, 1) := by decide +kernel
theorem dX6_pondAt_11 : decode cX6_pondAt 11 = .ok (.getfield 9, 3) := by decide +kernel
theorem dX6_pondAt_14 : decode cX6_pondAt 14 = .ok (.iload_n 2, 1) := by decide +kernel
theorem dX6_pondAt_15 : decode cX6_pondAt 15 = .ok (.iaload, 1) := by decide +kernel
theorem dX6_pondAt_16 : decode cX6_pondAt 16 = .ok (.iload_n 1, 1) := by decide +kernel
theorem dX6_pondAt_17 : decode cX6_pondAt 17 = .ok (.if_icmp .ne 5, 3) := by decide +kernel
theorem dX6_pondAt_20 : decode cX6_pondAt 20 = .ok (.iload_n 2, 1) := by decide +kernel
theorem dX6_pondAt_21 : decode cX6_pondAt 21 = .ok (.ireturn, 1) := by decide +kernel
theorem dX6_pondAt_22 : decode cX6_pondAt 22 = .ok (.iinc 2 1, 3) := by decide +kernel
theorem dX6_pondAt_25 : decode cX6_pondAt 25 = .ok (.goto (-23), 3) := by decide +kernel
theorem dX6_pondAt_28 : decode cX6_pondAt 28 = .ok (.iconst (-1), 1) := by decide +kernel
theorem dX6_pondAt_29 : decode cX6_pondAt 29 = .ok (.ireturn, 1) := by decide +kernel
theorem dX6_isStreet_0 : decode cX6_isStreet 0 = .ok (.aload_n 0, 1) := by decide +kernel
theorem dX6_isStreet_1 : decode cX6_isStreet 1 = .ok (.iload_n 1, 1) := by decide +kernel
theorem dX6_isStreet_2 : decode cX6_isStreet 2 = .ok (.invokevirtual 71, 3) := by decide +kernel
theorem dX6_isStreet_5 : decode cX6_isStreet 5 = .ok (.iconst (-1), 1) := by decide +kernel
theorem dX6_isStreet_6 : decode cX6_isStreet 6 = .ok (.if_icmp .ne 16, 3) := by decide +kernel
theorem dX6_isStreet_9 : decode cX6_isStreet 9 = .ok (.aload_n 0, 1) := by decide +kernel
theorem dX6_isStreet_10 : decode cX6_isStreet 10 = .ok (.iload_n 1, 1) := by decide +kernel
theorem dX6_isStreet_11 : decode cX6_isStreet 11 = .ok (.invokevirtual 74, 3) := by decide +kernel
theorem dX6_isStreet_14 : decode cX6_isStreet 14 = .ok (.iconst (-1), 1) := by decide +kernel
theorem dX6_isStreet_15 : decode cX6_isStreet 15 = .ok (.if_icmp .ne 7, 3) := by decide +kernel
theorem dX6_isStreet_18 : decode cX6_isStreet 18 = .ok (.iconst 1, 1) := by decide +kernel
theorem dX6_isStreet_19 : decode cX6_isStreet 19 = .ok (.goto 4, 3) := by decide +kernel
theorem dX6_isStreet_22 : decode cX6_isStreet 22 = .ok (.iconst 0, 1) := by decide +kernel
theorem dX6_isStreet_23 : decode cX6_isStreet 23 = .ok (.ireturn, 1) := by decide +kernel
theorem dX6_isFree_0 : decode cX6_isFree 0 = .ok (.aload_n 0, 1) := by decide +kernel
theorem dX6_isFree_1 : decode cX6_isFree 1 = .ok (.iload_n 1, 1) := by decide +kernel
theorem dX6_isFree_2 : decode cX6_isFree 2 = .ok (.invokevirtual 77, 3) := by decide +kernel
theorem dX6_isFree_5 : decode cX6_isFree 5 = .ok (.istore_n 2, 1) := by decide +kernel
theorem dX6_isFree_6 : decode cX6_isFree 6 = .ok (.iconst 0, 1) := by decide +kernel
theorem dX6_isFree_7 : decode cX6_isFree 7 = .ok (.istore_n 3, 1) := by decide +kernel
theorem dX6_isFree_8 : decode cX6_isFree 8 = .ok (.iload_n 3, 1) := by decide +kernel
theorem dX6_isFree_9 : decode cX6_isFree 9 = .ok (.aload_n 0, 1) := by decide +kernel
theorem dX6_isFree_10 : decode cX6_isFree 10 = .ok (.getfield 62, 3) := by decide +kernel
theorem dX6_isFree_13 : decode cX6_isFree 13 = .ok (.if_icmp .ge 49, 3) := by decide +kernel
theorem dX6_isFree_16 : decode cX6_isFree 16 = .ok (.iload_n 2, 1) := by decide +kernel
theorem dX6_isFree_17 : decode cX6_isFree 17 = .ok (.ifCond .eq 37, 3) := by decide +kernel
theorem dX6_isFree_20 : decode cX6_isFree 20 = .ok (.aload_n 0, 1) := by decide +kernel
theorem dX6_isFree_21 : decode cX6_isFree 21 = .ok (.iload_n 3, 1) := by decide +kernel
theorem dX6_isFree_22 : decode cX6_isFree 22 = .ok (.iconst 0, 1) := by decide +kernel
theorem dX6_isFree_23 : decode cX6_isFree 23 = .ok (.invokevirtual 81, 3) := by decide +kernel
theorem dX6_isFree_26 : decode cX6_isFree 26 = .ok (.iload_n 1, 1) := by decide +kernel
theorem dX6_isFree_27 : decode cX6_isFree 27 = .ok (.if_icmp .eq 27, 3) := by decide +kernel
theorem dX6_isFree_30 : decode cX6_isFree 30 = .ok (.aload_n 0, 1) := by decide +kernel
theorem dX6_isFree_31 : decode cX6_isFree 31 = .ok (.iload_n 3, 1) := by decide +kernel
theorem dX6_isFree_32 : decode cX6_isFree 32 = .ok (.iconst 5, 1) := by decide +kernel
theorem dX6_isFree_33 : decode cX6_isFree 33 = .ok (.invokevirtual 81, 3) := by decide +kernel
theorem dX6_isFree_36 : decode cX6_isFree 36 = .ok (.ifCond .eq 14, 3) := by decide +kernel
theorem dX6_isFree_39 : decode cX6_isFree 39 = .ok (.aload_n 0, 1) := by decide +kernel
theorem dX6_isFree_40 : decode cX6_isFree 40 = .ok (.iload_n 3, 1) := by decide +kernel
theorem dX6_isFree_41 : decode cX6_isFree 41 = .ok (.bipush 6, 2) := by decide +kernel
theorem dX6_isFree_43 : decode cX6_isFree 43 = .ok (.invokevirtual 81, 3) := by decide +kernel
theorem dX6_isFree_46 : decode cX6_isFree 46 = .ok (.iload_n 1, 1) := by decide +kernel
theorem dX6_isFree_47 : decode cX6_isFree 47 = .ok (.if_icmp .eq 7, 3) := by decide +kernel
theorem dX6_isFree_50 : decode cX6_isFree 50 = .ok (.iconst 1, 1) := by decide +kernel
theorem dX6_isFree_51 : decode cX6_isFree 51 = .ok (.goto 4, 3) := by decide +kernel
theorem dX6_isFree_54 : decode cX6_isFree 54 = .ok (.iconst 0, 1) := by decide +kernel
theorem dX6_isFree_55 : decode cX6_isFree 55 = .ok (.istore_n 2, 1) := by decide +kernel
theorem dX6_isFree_56 : decode cX6_isFree 56 = .ok (.iinc 3 1, 3) := by decide +kernel
theorem dX6_isFree_59 : decode cX6_isFree 59 = .ok (.goto (-51), 3) := by decide +kernel
theorem dX6_isFree_62 : decode cX6_isFree 62 = .ok (.iload_n 2, 1) := by decide +kernel
theorem dX6_isFree_63 : decode cX6_isFree 63 = .ok (.ireturn, 1) := by decide +kernel
theorem dX6_build_0 : decode cX6_build 0 = .ok (.aload_n 0, 1) := by decide +kernel
theorem dX6_build_1 : decode cX6_build 1 = .ok (.iconst 0, 1) := by decide +kernel
theorem dX6_build_2 : decode cX6_build 2 = .ok (.putfield 38, 3) := by decide +kernel
theorem dX6_build_5 : decode cX6_build 5 = .ok (.iload_n 1, 1) := by decide +kernel
theorem dX6_build_6 : decode cX6_build 6 = .ok (.iload_n 2, 1) := by decide +kernel
theorem dX6_build_7 : decode cX6_build 7 = .ok (.invokestatic 84, 3) := by decide +kernel
theorem dX6_build_10 : decode cX6_build 10 = .ok (.ifCond .ne 9, 3) := by decide +kernel
theorem dX6_build_13 : decode cX6_build 13 = .ok (.aload_n 0, 1) := by decide +kernel
theorem dX6_build_14 : decode cX6_build 14 = .ok (.iconst 1, 1) := by decide +kernel
theorem dX6_build_15 : decode cX6_build 15 = .ok (.invokevirtual 88, 3) := by decide +kernel
theorem dX6_build_18 : decode cX6_build 18 = .ok (.ireturn, 1) := by decide +kernel
theorem dX6_build_19 : decode cX6_build 19 = .ok (.iload_n 3, 1) := by decide +kernel
theorem dX6_build_20 : decode cX6_build 20 = .ok (.iconst 1, 1) := by decide +kernel
theorem dX6_build_21 : decode cX6_build 21 = .ok (.bipush 9, 2) := by decide +kernel
theorem dX6_build_23 : decode cX6_build 23 = .ok (.invokestatic 42, 3) := by decide +kernel
theorem dX6_build_26 : decode cX6_build 26 = .ok (.ifCond .eq 14, 3) := by decide +kernel
theorem dX6_build_29 : decode cX6_build 29 = .ok (.iload 4, 2) := by decide +kernel
theorem dX6_build_31 : decode cX6_build 31 = .ok (.iconst 1, 1) := by decide +kernel
theorem dX6_build_32 : decode cX6_build 32 = .ok (.bipush 60, 2) := by decide +kernel
theorem dX6_build_34 : decode cX6_build 34 = .ok (.invokestatic 42, 3) := by decide +kernel
theorem dX6_build_37 : decode cX6_build 37 = .ok (.ifCond .ne 9, 3) := by decide +kernel
theorem dX6_build_40 : decode cX6_build 40 = .ok (.aload_n 0, 1) := by decide +kernel
theorem dX6_build_41 : decode cX6_build 41 = .ok (.iconst 2, 1) := by decide +kernel
theorem dX6_build_42 : decode cX6_build 42 = .ok (.invokevirtual 88, 3) := by decide +kernel
theorem dX6_build_45 : decode cX6_build 45 = .ok (.ireturn, 1) := by decide +kernel
theorem dX6_build_46 : decode cX6_build 46 = .ok (.aload_n 0, 1) := by decide +kernel
theorem dX6_build_47 : decode cX6_build 47 = .ok (.getfield 59, 3) := by decide +kernel
theorem dX6_build_50 : decode cX6_build 50 = .ok (.bipush 30, 2) := by decide +kernel
theorem dX6_build_52 : decode cX6_build 52 = .ok (.if_icmp .eq 16, 3) := by decide +kernel
theorem dX6_build_55 : decode cX6_build 55 = .ok (.aload_n 0, 1) := by decide +kernel
theorem dX6_build_56 : decode cX6_build 56 = .ok (.iload_n 1, 1) := by decide +kernel
theorem dX6_build_57 : decode cX6_build 57 = .ok (.bipush 14, 2) := by decide +kernel
theorem dX6_build_59 : decode cX6_build 59 = .ok (.iload_n 2, 1) := by decide +kernel
theorem dX6_build_60 : decode cX6_build 60 = .ok (.imul, 1) := by decide +kernel
theorem dX6_build_61 : decode cX6_build 61 = .ok (.iadd, 1) := by decide +kernel
theorem dX6_build_62 : decode cX6_build 62 = .ok (.invokevirtual 91, 3) := by decide +kernel
theorem dX6_build_65 : decode cX6_build 65 = .ok (.ifCond .ne 9, 3) := by decide +kernel
theorem dX6_build_68 : decode cX6_build 68 = .ok (.aload_n 0, 1) := by decide +kernel
theorem dX6_build_69 : decode cX6_build 69 = .ok (.iconst 3, 1) := by decide +kernel
theorem dX6_build_70 : decode cX6_build 70 = .ok (.invokevirtual 88, 3) := by decide +kernel
theorem dX6_build_73 : decode cX6_build 73 = .ok (.ireturn, 1) := by decide +kernel
theorem dX6_build_74 : decode cX6_build 74 = .ok (.bipush 7, 2) := by decide +kernel
theorem dX6_build_76 : decode cX6_build 76 = .ok (.newarray .int, 2) := by decide +kernel
theorem dX6_build_78 : decode cX6_build 78 = .ok (.dup, 1) := by decide +kernel
theorem dX6_build_79 : decode cX6_build 79 = .ok (.iconst 0, 1) := by decide +kernel
theorem dX6_build_80 : decode cX6_build 80 = .ok (.iload_n 1, 1) := by decide +kernel
theorem dX6_build_81 : decode cX6_build 81 = .ok (.bipush 14, 2) := by decide +kernel
theorem dX6_build_83 : decode cX6_build 83 = .ok (.iload_n 2, 1) := by decide +kernel
theorem dX6_build_84 : decode cX6_build 84 = .ok (.imul, 1) := by decide +kernel
theorem dX6_build_85 : decode cX6_build 85 = .ok (.iadd, 1) := by decide +kernel
theorem dX6_build_86 : decode cX6_build 86 = .ok (.iastore, 1) := by decide +kernel
theorem dX6_build_87 : decode cX6_build 87 = .ok (.dup, 1) := by decide +kernel
theorem dX6_build_88 : decode cX6_build 88 = .ok (.iconst 1, 1) := by decide +kernel
theorem dX6_build_89 : decode cX6_build 89 = .ok (.iload_n 3, 1) := by decide +kernel
theorem dX6_build_90 : decode cX6_build 90 = .ok (.iastore, 1) := by decide +kernel
theorem dX6_build_91 : decode cX6_build 91 = .ok (.dup, 1) := by decide +kernel
theorem dX6_build_92 : decode cX6_build 92 = .ok (.iconst 2, 1) := by decide +kernel
theorem dX6_build_93 : decode cX6_build 93 = .ok (.iload 4, 2) := by decide +kernel
theorem dX6_build_95 : decode cX6_build 95 = .ok (.iastore, 1) := by decide +kernel
theorem dX6_build_96 : decode cX6_build 96 = .ok (.dup, 1) := by decide +kernel
theorem dX6_build_97 : decode cX6_build 97 = .ok (.iconst 3, 1) := by decide +kernel
theorem dX6_build_98 : decode cX6_build 98 = .ok (.iconst 0, 1) := by decide +kernel
theorem dX6_build_99 : decode cX6_build 99 = .ok (.iastore, 1) := by decide +kernel
theorem dX6_build_100 : decode cX6_build 100 = .ok (.dup, 1) := by decide +kernel
theorem dX6_build_101 : decode cX6_build 101 = .ok (.iconst 4, 1) := by decide +kernel
theorem dX6_build_102 : decode cX6_build 102 = .ok (.iconst 0, 1) := by decide +kernel
theorem dX6_build_103 : decode cX6_build 103 = .ok (.iastore, 1) := by decide +kernel
theorem dX6_build_104 : decode cX6_build 104 = .ok (.dup, 1) := by decide +kernel
theorem dX6_build_105 : decode cX6_build 105 = .ok (.iconst 5, 1) := by decide +kernel
theorem dX6_build_106 : decode cX6_build 106 = .ok (.iconst 0, 1) := by decide +kernel
theorem dX6_build_107 : decode cX6_build 107 = .ok (.iastore, 1) := by decide +kernel
theorem dX6_build_108 : decode cX6_build 108 = .ok (.dup, 1) := by decide +kernel
theorem dX6_build_109 : decode cX6_build 109 = .ok (.bipush 6, 2) := by decide +kernel
theorem dX6_build_111 : decode cX6_build 111 = .ok (.iconst 0, 1) := by decide +kernel
theorem dX6_build_112 : decode cX6_build 112 = .ok (.iastore, 1) := by decide +kernel
theorem dX6_build_113 : decode cX6_build 113 = .ok (.astore 5, 2) := by decide +kernel
theorem dX6_build_115 : decode cX6_build 115 = .ok (.aload 5, 2) := by decide +kernel
theorem dX6_build_117 : decode cX6_build 117 = .ok (.iconst 0, 1) := by decide +kernel
theorem dX6_build_118 : decode cX6_build 118 = .ok (.aload_n 0, 1) := by decide +kernel
theorem dX6_build_119 : decode cX6_build 119 = .ok (.getfield 16, 3) := by decide +kernel
theorem dX6_build_122 : decode cX6_build 122 = .ok (.bipush 7, 2) := by decide +kernel
theorem dX6_build_124 : decode cX6_build 124 = .ok (.aload_n 0, 1) := by decide +kernel
theorem dX6_build_125 : decode cX6_build 125 = .ok (.getfield 59, 3) := by decide +kernel
theorem dX6_build_128 : decode cX6_build 128 = .ok (.imul, 1) := by decide +kernel
theorem dX6_build_129 : decode cX6_build 129 = .ok (.bipush 7, 2) := by decide +kernel
theorem dX6_build_131 : decode cX6_build 131 = .ok (.invokestatic 94, 3) := by decide +kernel
theorem dX6_build_134 : decode cX6_build 134 = .ok (.aload_n 0, 1) := by decide +kernel
theorem dX6_build_135 : decode cX6_build 135 = .ok (.dup, 1) := by decide +kernel
theorem dX6_build_136 : decode cX6_build 136 = .ok (.getfield 59, 3) := by decide +kernel
theorem dX6_build_139 : decode cX6_build 139 = .ok (.iconst 1, 1) := by decide +kernel
theorem dX6_build_140 : decode cX6_build 140 = .ok (.iadd, 1) := by decide +kernel
theorem dX6_build_141 : decode cX6_build 141 = .ok (.putfield 59, 3) := by decide +kernel
theorem dX6_build_144 : decode cX6_build 144 = .ok (.aload_n 0, 1) := by decide +kernel
theorem dX6_build_145 : decode cX6_build 145 = .ok (.getfield 59, 3) := by decide +kernel
theorem dX6_build_148 : decode cX6_build 148 = .ok (.iconst 1, 1) := by decide +kernel
theorem dX6_build_149 : decode cX6_build 149 = .ok (.isub, 1) := by decide +kernel
theorem dX6_build_150 : decode cX6_build 150 = .ok (.ireturn, 1) := by decide +kernel
theorem dX6_dig_0 : decode cX6_dig 0 = .ok (.aload_n 0, 1) := by decide +kernel
theorem dX6_dig_1 : decode cX6_dig 1 = .ok (.iconst 0, 1) := by decide +kernel
theorem dX6_dig_2 : decode cX6_dig 2 = .ok (.putfield 38, 3) := by decide +kernel
theorem dX6_dig_5 : decode cX6_dig 5 = .ok (.iload_n 1, 1) := by decide +kernel
theorem dX6_dig_6 : decode cX6_dig 6 = .ok (.iload_n 2, 1) := by decide +kernel
theorem dX6_dig_7 : decode cX6_dig 7 = .ok (.invokestatic 84, 3) := by decide +kernel
theorem dX6_dig_10 : decode cX6_dig 10 = .ok (.ifCond .ne 9, 3) := by decide +kernel
theorem dX6_dig_13 : decode cX6_dig 13 = .ok (.aload_n 0, 1) := by decide +kernel
theorem dX6_dig_14 : decode cX6_dig 14 = .ok (.iconst 1, 1) := by decide +kernel
theorem dX6_dig_15 : decode cX6_dig 15 = .ok (.invokevirtual 88, 3) := by decide +kernel
theorem dX6_dig_18 : decode cX6_dig 18 = .ok (.ireturn, 1) := by decide +kernel
theorem dX6_dig_19 : decode cX6_dig 19 = .ok (.iload_n 3, 1) := by decide +kernel
theorem dX6_dig_20 : decode cX6_dig 20 = .ok (.iconst 0, 1) := by decide +kernel
theorem dX6_dig_21 : decode cX6_dig 21 = .ok (.sipush 5000, 3) := by decide +kernel
theorem dX6_dig_24 : decode cX6_dig 24 = .ok (.invokestatic 42, 3) := by decide +kernel
theorem dX6_dig_27 : decode cX6_dig 27 = .ok (.ifCond .ne 9, 3) := by decide +kernel
theorem dX6_dig_30 : decode cX6_dig 30 = .ok (.aload_n 0, 1) := by decide +kernel
theorem dX6_dig_31 : decode cX6_dig 31 = .ok (.iconst 2, 1) := by decide +kernel
theorem dX6_dig_32 : decode cX6_dig 32 = .ok (.invokevirtual 88, 3) := by decide +kernel
theorem dX6_dig_35 : decode cX6_dig 35 = .ok (.ireturn, 1) := by decide +kernel
theorem dX6_dig_36 : decode cX6_dig 36 = .ok (.aload_n 0, 1) := by decide +kernel
theorem dX6_dig_37 : decode cX6_dig 37 = .ok (.getfield 68, 3) := by decide +kernel
theorem dX6_dig_40 : decode cX6_dig 40 = .ok (.bipush 6, 2) := by decide +kernel
theorem dX6_dig_42 : decode cX6_dig 42 = .ok (.if_icmp .eq 16, 3) := by decide +kernel
theorem dX6_dig_45 : decode cX6_dig 45 = .ok (.aload_n 0, 1) := by decide +kernel
theorem dX6_dig_46 : decode cX6_dig 46 = .ok (.iload_n 1, 1) := by decide +kernel
theorem dX6_dig_47 : decode cX6_dig 47 = .ok (.bipush 14, 2) := by decide +kernel
theorem dX6_dig_49 : decode cX6_dig 49 = .ok (.iload_n 2, 1) := by decide +kernel
theorem dX6_dig_50 : decode cX6_dig 50 = .ok (.imul, 1) := by decide +kernel
theorem dX6_dig_51 : decode cX6_dig 51 = .ok (.iadd, 1) := by decide +kernel
theorem dX6_dig_52 : decode cX6_dig 52 = .ok (.invokevirtual 91, 3) := by decide +kernel
theorem dX6_dig_55 : decode cX6_dig 55 = .ok (.ifCond .ne 9, 3) := by decide +kernel
theorem dX6_dig_58 : decode cX6_dig 58 = .ok (.aload_n 0, 1) := by decide +kernel
theorem dX6_dig_59 : decode cX6_dig 59 = .ok (.iconst 3, 1) := by decide +kernel
theorem dX6_dig_60 : decode cX6_dig 60 = .ok (.invokevirtual 88, 3) := by decide +kernel
theorem dX6_dig_63 : decode cX6_dig 63 = .ok (.ireturn, 1) := by decide +kernel
theorem dX6_dig_64 : decode cX6_dig 64 = .ok (.aload_n 0, 1) := by decide +kernel
theorem dX6_dig_65 : decode cX6_dig 65 = .ok (.getfield 9, 3) := by decide +kernel
theorem dX6_dig_68 : decode cX6_dig 68 = .ok (.aload_n 0, 1) := by decide +kernel
theorem dX6_dig_69 : decode cX6_dig 69 = .ok (.getfield 68, 3) := by decide +kernel
theorem dX6_dig_72 : decode cX6_dig 72 = .ok (.iload_n 1, 1) := by decide +kernel
theorem dX6_dig_73 : decode cX6_dig 73 = .ok (.bipush 14, 2) := by decide +kernel
theorem dX6_dig_75 : decode cX6_dig 75 = .ok (.iload_n 2, 1) := by decide +kernel
theorem dX6_dig_76 : decode cX6_dig 76 = .ok (.imul, 1) := by decide +kernel
theorem dX6_dig_77 : decode cX6_dig 77 = .ok (.iadd, 1) := by decide +kernel
theorem dX6_dig_78 : decode cX6_dig 78 = .ok (.iastore, 1) := by decide +kernel
theorem dX6_dig_79 : decode cX6_dig 79 = .ok (.aload_n 0, 1) := by decide +kernel
theorem dX6_dig_80 : decode cX6_dig 80 = .ok (.getfield 13, 3) := by decide +kernel
theorem dX6_dig_83 : decode cX6_dig 83 = .ok (.aload_n 0, 1) := by decide +kernel
theorem dX6_dig_84 : decode cX6_dig 84 = .ok (.getfield 68, 3) := by decide +kernel
theorem dX6_dig_87 : decode cX6_dig 87 = .ok (.iload_n 3, 1) := by decide +kernel
theorem dX6_dig_88 : decode cX6_dig 88 = .ok (.iastore, 1) := by decide +kernel
theorem dX6_dig_89 : decode cX6_dig 89 = .ok (.aload_n 0, 1) := by decide +kernel
theorem dX6_dig_90 : decode cX6_dig 90 = .ok (.dup, 1) := by decide +kernel
theorem dX6_dig_91 : decode cX6_dig 91 = .ok (.getfield 68, 3) := by decide +kernel
theorem dX6_dig_94 : decode cX6_dig 94 = .ok (.iconst 1, 1) := by decide +kernel
theorem dX6_dig_95 : decode cX6_dig 95 = .ok (.iadd, 1) := by decide +kernel
theorem dX6_dig_96 : decode cX6_dig 96 = .ok (.putfield 68, 3) := by decide +kernel
theorem dX6_dig_99 : decode cX6_dig 99 = .ok (.aload_n 0, 1) := by decide +kernel
theorem dX6_dig_100 : decode cX6_dig 100 = .ok (.getfield 68, 3) := by decide +kernel
theorem dX6_dig_103 : decode cX6_dig 103 = .ok (.iconst 1, 1) := by decide +kernel
theorem dX6_dig_104 : decode cX6_dig 104 = .ok (.isub, 1) := by decide +kernel
theorem dX6_dig_105 : decode cX6_dig 105 = .ok (.ireturn, 1) := by decide +kernel
theorem dX6_with_0 : decode cX6_with 0 = .ok (.iconst 0, 1) := by decide +kernel
theorem dX6_with_1 : decode cX6_with 1 = .ok (.istore_n 2, 1) := by decide +kernel
theorem dX6_with_2 : decode cX6_with 2 = .ok (.iconst 0, 1) := by decide +kernel
theorem dX6_with_3 : decode cX6_with 3 = .ok (.istore_n 3, 1) := by decide +kernel
theorem dX6_with_4 : decode cX6_with 4 = .ok (.iload_n 3, 1) := by decide +kernel
theorem dX6_with_5 : decode cX6_with 5 = .ok (.aload_n 0, 1) := by decide +kernel
theorem dX6_with_6 : decode cX6_with 6 = .ok (.getfield 59, 3) := by decide +kernel
theorem dX6_with_9 : decode cX6_with 9 = .ok (.if_icmp .ge 27, 3) := by decide +kernel
theorem dX6_with_12 : decode cX6_with 12 = .ok (.iload_n 2, 1) := by decide +kernel
theorem dX6_with_13 : decode cX6_with 13 = .ok (.aload_n 0, 1) := by decide +kernel
theorem dX6_with_14 : decode cX6_with 14 = .ok (.iload_n 3, 1) := by decide +kernel
theorem dX6_with_15 : decode cX6_with 15 = .ok (.iconst 3, 1) := by decide +kernel
theorem dX6_with_16 : decode cX6_with 16 = .ok (.invokevirtual 65, 3) := by decide +kernel
theorem dX6_with_19 : decode cX6_with 19 = .ok (.iload_n 1, 1) := by decide +kernel
theorem dX6_with_20 : decode cX6_with 20 = .ok (.if_icmp .ne 7, 3) := by decide +kernel
theorem dX6_with_23 : decode cX6_with 23 = .ok (.iconst 1, 1) := by decide +kernel
theorem dX6_with_24 : decode cX6_with 24 = .ok (.goto 4, 3) := by decide +kernel
theorem dX6_with_27 : decode cX6_with 27 = .ok (.iconst 0, 1) := by decide +kernel
theorem dX6_with_28 : decode cX6_with 28 = .ok (.iadd, 1) := by decide +kernel
theorem dX6_with_29 : decode cX6_with 29 = .ok (.istore_n 2, 1) := by decide +kernel
theorem dX6_with_30 : decode cX6_with 30 = .ok (.iinc 3 1, 3) := by decide +kernel
theorem dX6_with_33 : decode cX6_with 33 = .ok (.goto (-29), 3) := by decide +kernel
theorem dX6_with_36 : decode cX6_with 36 = .ok (.iload_n 2, 1) := by decide +kernel
theorem dX6_with_37 : decode cX6_with 37 = .ok (.ireturn, 1) := by decide +kernel
theorem dX6_light_0 : decode cX6_light 0 = .ok (.aload_n 0, 1) := by decide +kernel
theorem dX6_light_1 : decode cX6_light 1 = .ok (.iconst 0, 1) := by decide +kernel
theorem dX6_light_2 : decode cX6_light 2 = .ok (.putfield 38, 3) := by decide +kernel
theorem dX6_light_5 : decode cX6_light 5 = .ok (.aload_n 0, 1) := by decide +kernel
theorem dX6_light_6 : decode cX6_light 6 = .ok (.iload_n 1, 1) := by decide +kernel
theorem dX6_light_7 : decode cX6_light 7 = .ok (.invokevirtual 100, 3) := by decide +kernel
theorem dX6_light_10 : decode cX6_light 10 = .ok (.ifCond .ne 9, 3) := by decide +kernel
theorem dX6_light_13 : decode cX6_light 13 = .ok (.aload_n 0, 1) := by decide +kernel
theorem dX6_light_14 : decode cX6_light 14 = .ok (.iconst 1, 1) := by decide +kernel
theorem dX6_light_15 : decode cX6_light 15 = .ok (.invokevirtual 88, 3) := by decide +kernel
theorem dX6_light_18 : decode cX6_light 18 = .ok (.ireturn, 1) := by decide +kernel
theorem dX6_light_19 : decode cX6_light 19 = .ok (.iload_n 2, 1) := by decide +kernel
theorem dX6_light_20 : decode cX6_light 20 = .ok (.iconst 1, 1) := by decide +kernel
theorem dX6_light_21 : decode cX6_light 21 = .ok (.bipush 99, 2) := by decide +kernel
theorem dX6_light_23 : decode cX6_light 23 = .ok (.invokestatic 42, 3) := by decide +kernel
theorem dX6_light_26 : decode cX6_light 26 = .ok (.ifCond .ne 9, 3) := by decide +kernel
theorem dX6_light_29 : decode cX6_light 29 = .ok (.aload_n 0, 1) := by decide +kernel
theorem dX6_light_30 : decode cX6_light 30 = .ok (.iconst 2, 1) := by decide +kernel
theorem dX6_light_31 : decode cX6_light 31 = .ok (.invokevirtual 88, 3) := by decide +kernel
theorem dX6_light_34 : decode cX6_light 34 = .ok (.ireturn, 1) := by decide +kernel
theorem dX6_light_35 : decode cX6_light 35 = .ok (.aload_n 0, 1) := by decide +kernel
theorem dX6_light_36 : decode cX6_light 36 = .ok (.iload_n 1, 1) := by decide +kernel
theorem dX6_light_37 : decode cX6_light 37 = .ok (.iconst 3, 1) := by decide +kernel
theorem dX6_light_38 : decode cX6_light 38 = .ok (.invokevirtual 65, 3) := by decide +kernel
theorem dX6_light_41 : decode cX6_light 41 = .ok (.ifCond .eq 9, 3) := by decide +kernel
theorem dX6_light_44 : decode cX6_light 44 = .ok (.aload_n 0, 1) := by decide +kernel
theorem dX6_light_45 : decode cX6_light 45 = .ok (.iconst 3, 1) := by decide +kernel
theorem dX6_light_46 : decode cX6_light 46 = .ok (.invokevirtual 88, 3) := by decide +kernel
theorem dX6_light_49 : decode cX6_light 49 = .ok (.ireturn, 1) := by decide +kernel
theorem dX6_light_50 : decode cX6_light 50 = .ok (.aload_n 0, 1) := by decide +kernel
theorem dX6_light_51 : decode cX6_light 51 = .ok (.iload_n 1, 1) := by decide +kernel
theorem dX6_light_52 : decode cX6_light 52 = .ok (.iconst 3, 1) := by decide +kernel
theorem dX6_light_53 : decode cX6_light 53 = .ok (.iconst 1, 1) := by decide +kernel
theorem dX6_light_54 : decode cX6_light 54 = .ok (.invokevirtual 103, 3) := by decide +kernel
theorem dX6_light_57 : decode cX6_light 57 = .ok (.aload_n 0, 1) := by decide +kernel
theorem dX6_light_58 : decode cX6_light 58 = .ok (.iload_n 1, 1) := by decide +kernel
theorem dX6_light_59 : decode cX6_light 59 = .ok (.iconst 4, 1) := by decide +kernel
theorem dX6_light_60 : decode cX6_light 60 = .ok (.iload_n 2, 1) := by decide +kernel
theorem dX6_light_61 : decode cX6_light 61 = .ok (.invokevirtual 103, 3) := by decide +kernel
theorem dX6_light_64 : decode cX6_light 64 = .ok (.aload_n 0, 1) := by decide +kernel
theorem dX6_light_65 : decode cX6_light 65 = .ok (.iconst 1, 1) := by decide +kernel
theorem dX6_light_66 : decode cX6_light 66 = .ok (.invokevirtual 107, 3) := by decide +kernel
theorem dX6_light_69 : decode cX6_light 69 = .ok (.ireturn, 1) := by decide +kernel
theorem dX6_heatNear_0 : decode cX6_heatNear 0 = .ok (.iconst 0, 1) := by decide +kernel
theorem dX6_heatNear_1 : decode cX6_heatNear 1 = .ok (.istore_n 2, 1) := by decide +kernel
theorem dX6_heatNear_2 : decode cX6_heatNear 2 = .ok (.iconst 0, 1) := by decide +kernel
theorem dX6_heatNear_3 : decode cX6_heatNear 3 = .ok (.istore_n 3, 1) := by decide +kernel
theorem dX6_heatNear_4 : decode cX6_heatNear 4 = .ok (.iload_n 3, 1) := by decide +kernel
theorem dX6_heatNear_5 : decode cX6_heatNear 5 = .ok (.aload_n 0, 1) := by decide +kernel
theorem dX6_heatNear_6 : decode cX6_heatNear 6 = .ok (.getfield 59, 3) := by decide +kernel
theorem dX6_heatNear_9 : decode cX6_heatNear 9 = .ok (.if_icmp .ge 35, 3) := by decide +kernel
theorem dX6_heatNear_12 : decode cX6_heatNear 12 = .ok (.iload_n 2, 1) := by decide +kernel
theorem dX6_heatNear_13 : decode cX6_heatNear 13 = .ok (.aload_n 0, 1) := by decide +kernel
theorem dX6_heatNear_14 : decode cX6_heatNear 14 = .ok (.iload_n 3, 1) := by decide +kernel
theorem dX6_heatNear_15 : decode cX6_heatNear 15 = .ok (.iconst 0, 1) := by decide +kernel
theorem dX6_heatNear_16 : decode cX6_heatNear 16 = .ok (.invokevirtual 65, 3) := by decide +kernel
theorem dX6_heatNear_19 : decode cX6_heatNear 19 = .ok (.iload_n 1, 1) := by decide +kernel
theorem dX6_heatNear_20 : decode cX6_heatNear 20 = .ok (.invokestatic 110, 3) := by decide +kernel
theorem dX6_heatNear_23 : decode cX6_heatNear 23 = .ok (.ifCond .eq 12, 3) := by decide +kernel
theorem dX6_heatNear_26 : decode cX6_heatNear 26 = .ok (.aload_n 0, 1) := by decide +kernel
theorem dX6_heatNear_27 : decode cX6_heatNear 27 = .ok (.iload_n 3, 1) := by decide +kernel
theorem dX6_heatNear_28 : decode cX6_heatNear 28 = .ok (.iconst 4, 1) := by decide +kernel
theorem dX6_heatNear_29 : decode cX6_heatNear 29 = .ok (.invokevirtual 65, 3) := by decide +kernel
theorem dX6_heatNear_32 : decode cX6_heatNear 32 = .ok (.goto 4, 3) := by decide +kernel
theorem dX6_heatNear_35 : decode cX6_heatNear 35 = .ok (.iconst 0, 1) := by decide +kernel
theorem dX6_heatNear_36 : decode cX6_heatNear 36 = .ok (.iadd, 1) := by decide +kernel
theorem dX6_heatNear_37 : decode cX6_heatNear 37 = .ok (.istore_n 2, 1) := by decide +kernel
theorem dX6_heatNear_38 : decode cX6_heatNear 38 = .ok (.iinc 3 1, 3) := by decide +kernel
theorem dX6_heatNear_41 : decode cX6_heatNear 41 = .ok (.goto (-37), 3) := by decide +kernel
theorem dX6_heatNear_44 : decode cX6_heatNear 44 = .ok (.iload_n 2, 1) := by decide +kernel
theorem dX6_heatNear_45 : decode cX6_heatNear 45 = .ok (.ireturn, 1) := by decide +kernel
theorem dX6_cell_0 : decode cX6_cell 0 = .ok (.aload_n 0, 1) := by decide +kernel
theorem dX6_cell_1 : decode cX6_cell 1 = .ok (.iconst 0, 1) := by decide +kernel
theorem dX6_cell_2 : decode cX6_cell 2 = .ok (.putfield 38, 3) := by decide +kernel
theorem dX6_cell_5 : decode cX6_cell 5 = .ok (.iload_n 1, 1) := by decide +kernel
theorem dX6_cell_6 : decode cX6_cell 6 = .ok (.iload_n 2, 1) := by decide +kernel
theorem dX6_cell_7 : decode cX6_cell 7 = .ok (.invokestatic 84, 3) := by decide +kernel
theorem dX6_cell_10 : decode cX6_cell 10 = .ok (.ifCond .eq 12, 3) := by decide +kernel
theorem dX6_cell_13 : decode cX6_cell 13 = .ok (.iload_n 3, 1) := by decide +kernel
theorem dX6_cell_14 : decode cX6_cell 14 = .ok (.iconst 0, 1) := by decide +kernel
theorem dX6_cell_15 : decode cX6_cell 15 = .ok (.iconst 3, 1) := by decide +kernel
theorem dX6_cell_16 : decode cX6_cell 16 = .ok (.invokestatic 42, 3) := by decide +kernel
theorem dX6_cell_19 : decode cX6_cell 19 = .ok (.ifCond .ne 9, 3) := by decide +kernel
theorem dX6_cell_22 : decode cX6_cell 22 = .ok (.aload_n 0, 1) := by decide +kernel
theorem dX6_cell_23 : decode cX6_cell 23 = .ok (.iconst 1, 1) := by decide +kernel
theorem dX6_cell_24 : decode cX6_cell 24 = .ok (.invokevirtual 88, 3) := by decide +kernel
theorem dX6_cell_27 : decode cX6_cell 27 = .ok (.ireturn, 1) := by decide +kernel
theorem dX6_cell_28 : decode cX6_cell 28 = .ok (.iload_n 1, 1) := by decide +kernel
theorem dX6_cell_29 : decode cX6_cell 29 = .ok (.bipush 14, 2) := by decide +kernel
theorem dX6_cell_31 : decode cX6_cell 31 = .ok (.iload_n 2, 1) := by decide +kernel
theorem dX6_cell_32 : decode cX6_cell 32 = .ok (.imul, 1) := by decide +kernel
theorem dX6_cell_33 : decode cX6_cell 33 = .ok (.iadd, 1) := by decide +kernel
theorem dX6_cell_34 : decode cX6_cell 34 = .ok (.istore 4, 2) := by decide +kernel
theorem dX6_cell_36 : decode cX6_cell 36 = .ok (.iconst 0, 1) := by decide +kernel
theorem dX6_cell_37 : decode cX6_cell 37 = .ok (.istore 5, 2) := by decide +kernel
theorem dX6_cell_39 : decode cX6_cell 39 = .ok (.iconst 0, 1) := by decide +kernel
theorem dX6_cell_40 : decode cX6_cell 40 = .ok (.istore 6, 2) := by decide +kernel
theorem dX6_cell_42 : decode cX6_cell 42 = .ok (.iload 6, 2) := by decide +kernel
theorem dX6_cell_44 : decode cX6_cell 44 = .ok (.aload_n 0, 1) := by decide +kernel
theorem dX6_cell_45 : decode cX6_cell 45 = .ok (.getfield 62, 3) := by decide +kernel
theorem dX6_cell_48 : decode cX6_cell 48 = .ok (.if_icmp .ge 31, 3) := by decide +kernel
theorem dX6_cell_51 : decode cX6_cell 51 = .ok (.iload 5, 2) := by decide +kernel
theorem dX6_cell_53 : decode cX6_cell 53 = .ok (.aload_n 0, 1) := by decide +kernel
theorem dX6_cell_54 : decode cX6_cell 54 = .ok (.iload 6, 2) := by decide +kernel
theorem dX6_cell_56 : decode cX6_cell 56 = .ok (.iconst 0, 1) := by decide +kernel
theorem dX6_cell_57 : decode cX6_cell 57 = .ok (.invokevirtual 81, 3) := by decide +kernel
theorem dX6_cell_60 : decode cX6_cell 60 = .ok (.iload 4, 2) := by decide +kernel
theorem dX6_cell_62 : decode cX6_cell 62 = .ok (.if_icmp .ne 7, 3) := by decide +kernel
theorem dX6_cell_65 : decode cX6_cell 65 = .ok (.iconst 1, 1) := by decide +kernel
theorem dX6_cell_66 : decode cX6_cell 66 = .ok (.goto 4, 3) := by decide +kernel
theorem dX6_cell_69 : decode cX6_cell 69 = .ok (.iconst 0, 1) := by decide +kernel
theorem dX6_cell_70 : decode cX6_cell 70 = .ok (.iadd, 1) := by decide +kernel
theorem dX6_cell_71 : decode cX6_cell 71 = .ok (.istore 5, 2) := by decide +kernel
theorem dX6_cell_73 : decode cX6_cell 73 = .ok (.iinc 6 1, 3) := by decide +kernel
theorem dX6_cell_76 : decode cX6_cell 76 = .ok (.goto (-34), 3) := by decide +kernel
theorem dX6_cell_79 : decode cX6_cell 79 = .ok (.aload_n 0, 1) := by decide +kernel
theorem dX6_cell_80 : decode cX6_cell 80 = .ok (.iload 4, 2) := by decide +kernel
theorem dX6_cell_82 : decode cX6_cell 82 = .ok (.invokevirtual 71, 3) := by decide +kernel
theorem dX6_cell_85 : decode cX6_cell 85 = .ok (.iconst (-1), 1) := by decide +kernel
theorem dX6_cell_86 : decode cX6_cell 86 = .ok (.if_icmp .eq 7, 3) := by decide +kernel
theorem dX6_cell_89 : decode cX6_cell 89 = .ok (.iconst 1, 1) := by decide +kernel
theorem dX6_cell_90 : decode cX6_cell 90 = .ok (.goto 18, 3) := by decide +kernel
theorem dX6_cell_93 : decode cX6_cell 93 = .ok (.aload_n 0, 1) := by decide +kernel
theorem dX6_cell_94 : decode cX6_cell 94 = .ok (.iload 4, 2) := by decide +kernel
theorem dX6_cell_96 : decode cX6_cell 96 = .ok (.invokevirtual 74, 3) := by decide +kernel
theorem dX6_cell_99 : decode cX6_cell 99 = .ok (.iconst (-1), 1) := by decide +kernel
theorem dX6_cell_100 : decode cX6_cell 100 = .ok (.if_icmp .eq 7, 3) := by decide +kernel
theorem dX6_cell_103 : decode cX6_cell 103 = .ok (.iconst 2, 1) := by decide +kernel
theorem dX6_cell_104 : decode cX6_cell 104 = .ok (.goto 4, 3) := by decide +kernel
theorem dX6_cell_107 : decode cX6_cell 107 = .ok (.iconst 0, 1) := by decide +kernel
theorem dX6_cell_108 : decode cX6_cell 108 = .ok (.istore 6, 2) := by decide +kernel
theorem dX6_cell_110 : decode cX6_cell 110 = .ok (.iload_n 3, 1) := by decide +kernel
theorem dX6_cell_111 : decode cX6_cell 111 = .ok (.ifCond .ne 8, 3) := by decide +kernel
theorem dX6_cell_114 : decode cX6_cell 114 = .ok (.iload 6, 2) := by decide +kernel
theorem dX6_cell_116 : decode cX6_cell 116 = .ok (.goto 48, 3) := by decide +kernel
theorem dX6_cell_119 : decode cX6_cell 119 = .ok (.iload_n 3, 1) := by decide +kernel
theorem dX6_cell_120 : decode cX6_cell 120 = .ok (.iconst 1, 1) := by decide +kernel
theorem dX6_cell_121 : decode cX6_cell 121 = .ok (.if_icmp .ne 27, 3) := by decide +kernel
theorem dX6_cell_124 : decode cX6_cell 124 = .ok (.iload 6, 2) := by decide +kernel
theorem dX6_cell_126 : decode cX6_cell 126 = .ok (.iconst 1, 1) := by decide +kernel
theorem dX6_cell_127 : decode cX6_cell 127 = .ok (.if_icmp .ne 12, 3) := by decide +kernel
theorem dX6_cell_130 : decode cX6_cell 130 = .ok (.aload_n 0, 1) := by decide +kernel
theorem dX6_cell_131 : decode cX6_cell 131 = .ok (.iload 4, 2) := by decide +kernel
theorem dX6_cell_133 : decode cX6_cell 133 = .ok (.invokevirtual 71, 3) := by decide +kernel
theorem dX6_cell_136 : decode cX6_cell 136 = .ok (.goto 28, 3) := by decide +kernel
theorem dX6_cell_139 : decode cX6_cell 139 = .ok (.aload_n 0, 1) := by decide +kernel
theorem dX6_cell_140 : decode cX6_cell 140 = .ok (.iload 4, 2) := by decide +kernel
theorem dX6_cell_142 : decode cX6_cell 142 = .ok (.invokevirtual 74, 3) := by decide +kernel
theorem dX6_cell_145 : decode cX6_cell 145 = .ok (.goto 19, 3) := by decide +kernel
theorem dX6_cell_148 : decode cX6_cell 148 = .ok (.iload_n 3, 1) := by decide +kernel
theorem dX6_cell_149 : decode cX6_cell 149 = .ok (.iconst 2, 1) := by decide +kernel
theorem dX6_cell_150 : decode cX6_cell 150 = .ok (.if_icmp .ne 8, 3) := by decide +kernel
theorem dX6_cell_153 : decode cX6_cell 153 = .ok (.iload 5, 2) := by decide +kernel
theorem dX6_cell_155 : decode cX6_cell 155 = .ok (.goto 9, 3) := by decide +kernel
theorem dX6_cell_158 : decode cX6_cell 158 = .ok (.aload_n 0, 1) := by decide +kernel
theorem dX6_cell_159 : decode cX6_cell 159 = .ok (.iload 4, 2) := by decide +kernel
theorem dX6_cell_161 : decode cX6_cell 161 = .ok (.invokevirtual 113, 3) := by decide +kernel
theorem dX6_cell_164 : decode cX6_cell 164 = .ok (.ireturn, 1) := by decide +kernel
theorem dX6_house_0 : decode cX6_house 0 = .ok (.aload_n 0, 1) := by decide +kernel
theorem dX6_house_1 : decode cX6_house 1 = .ok (.iconst 0, 1) := by decide +kernel
theorem dX6_house_2 : decode cX6_house 2 = .ok (.putfield 38, 3) := by decide +kernel
theorem dX6_house_5 : decode cX6_house 5 = .ok (.aload_n 0, 1) := by decide +kernel
theorem dX6_house_6 : decode cX6_house 6 = .ok (.iload_n 1, 1) := by decide +kernel
theorem dX6_house_7 : decode cX6_house 7 = .ok (.invokevirtual 100, 3) := by decide +kernel
theorem dX6_house_10 : decode cX6_house 10 = .ok (.ifCond .eq 22, 3) := by decide +kernel
theorem dX6_house_13 : decode cX6_house 13 = .ok (.iload_n 2, 1) := by decide +kernel
theorem dX6_house_14 : decode cX6_house 14 = .ok (.iconst 0, 1) := by decide +kernel
theorem dX6_house_15 : decode cX6_house 15 = .ok (.bipush 6, 2) := by decide +kernel
theorem dX6_house_17 : decode cX6_house 17 = .ok (.invokestatic 42, 3) := by decide +kernel
theorem dX6_house_20 : decode cX6_house 20 = .ok (.ifCond .eq 12, 3) := by decide +kernel
theorem dX6_house_23 : decode cX6_house 23 = .ok (.aload_n 0, 1) := by decide +kernel
theorem dX6_house_24 : decode cX6_house 24 = .ok (.iload_n 1, 1) := by decide +kernel
theorem dX6_house_25 : decode cX6_house 25 = .ok (.iload_n 2, 1) := by decide +kernel
theorem dX6_house_26 : decode cX6_house 26 = .ok (.invokevirtual 65, 3) := by decide +kernel
theorem dX6_house_29 : decode cX6_house 29 = .ok (.goto 8, 3) := by decide +kernel
theorem dX6_house_32 : decode cX6_house 32 = .ok (.aload_n 0, 1) := by decide +kernel
theorem dX6_house_33 : decode cX6_house 33 = .ok (.iconst 1, 1) := by decide +kernel
theorem dX6_house_34 : decode cX6_house 34 = .ok (.invokevirtual 88, 3) := by decide +kernel
theorem dX6_house_37 : decode cX6_house 37 = .ok (.ireturn, 1) := by decide +kernel
theorem dX6_addEngine_0 : decode cX6_addEngine 0 = .ok (.aload_n 0, 1) := by decide +kernel
theorem dX6_addEngine_1 : decode cX6_addEngine 1 = .ok (.iconst 0, 1) := by decide +kernel
theorem dX6_addEngine_2 : decode cX6_addEngine 2 = .ok (.putfield 38, 3) := by decide +kernel
theorem dX6_addEngine_5 : decode cX6_addEngine 5 = .ok (.iload_n 1, 1) := by decide +kernel
theorem dX6_addEngine_6 : decode cX6_addEngine 6 = .ok (.iload_n 2, 1) := by decide +kernel
theorem dX6_addEngine_7 : decode cX6_addEngine 7 = .ok (.invokestatic 84, 3) := by decide +kernel
theorem dX6_addEngine_10 : decode cX6_addEngine 10 = .ok (.ifCond .ne 9, 3) := by decide +kernel
theorem dX6_addEngine_13 : decode cX6_addEngine 13 = .ok (.aload_n 0, 1) := by decide +kernel
theorem dX6_addEngine_14 : decode cX6_addEngine 14 = .ok (.iconst 1, 1) := by decide +kernel
theorem dX6_addEngine_15 : decode cX6_addEngine 15 = .ok (.invokevirtual 88, 3) := by decide +kernel
theorem dX6_addEngine_18 : decode cX6_addEngine 18 = .ok (.ireturn, 1) := by decide +kernel
theorem dX6_addEngine_19 : decode cX6_addEngine 19 = .ok (.iload_n 3, 1) := by decide +kernel
theorem dX6_addEngine_20 : decode cX6_addEngine 20 = .ok (.iconst 1, 1) := by decide +kernel
theorem dX6_addEngine_21 : decode cX6_addEngine 21 = .ok (.iconst 4, 1) := by decide +kernel
theorem dX6_addEngine_22 : decode cX6_addEngine 22 = .ok (.invokestatic 42, 3) := by decide +kernel
theorem dX6_addEngine_25 : decode cX6_addEngine 25 = .ok (.ifCond .eq 14, 3) := by decide +kernel
theorem dX6_addEngine_28 : decode cX6_addEngine 28 = .ok (.iload 4, 2) := by decide +kernel
theorem dX6_addEngine_30 : decode cX6_addEngine 30 = .ok (.iconst 1, 1) := by decide +kernel
theorem dX6_addEngine_31 : decode cX6_addEngine 31 = .ok (.bipush 20, 2) := by decide +kernel
theorem dX6_addEngine_33 : decode cX6_addEngine 33 = .ok (.invokestatic 42, 3) := by decide +kernel
theorem dX6_addEngine_36 : decode cX6_addEngine 36 = .ok (.ifCond .ne 9, 3) := by decide +kernel
theorem dX6_addEngine_39 : decode cX6_addEngine 39 = .ok (.aload_n 0, 1) := by decide +kernel
theorem dX6_addEngine_40 : decode cX6_addEngine 40 = .ok (.iconst 2, 1) := by decide +kernel
theorem dX6_addEngine_41 : decode cX6_addEngine 41 = .ok (.invokevirtual 88, 3) := by decide +kernel
theorem dX6_addEngine_44 : decode cX6_addEngine 44 = .ok (.ireturn, 1) := by decide +kernel
theorem dX6_addEngine_45 : decode cX6_addEngine 45 = .ok (.aload_n 0, 1) := by decide +kernel
theorem dX6_addEngine_46 : decode cX6_addEngine 46 = .ok (.getfield 62, 3) := by decide +kernel
theorem dX6_addEngine_49 : decode cX6_addEngine 49 = .ok (.bipush 6, 2) := by decide +kernel
theorem dX6_addEngine_51 : decode cX6_addEngine 51 = .ok (.if_icmp .eq 16, 3) := by decide +kernel
theorem dX6_addEngine_54 : decode cX6_addEngine 54 = .ok (.aload_n 0, 1) := by decide +kernel
theorem dX6_addEngine_55 : decode cX6_addEngine 55 = .ok (.iload_n 1, 1) := by decide +kernel
theorem dX6_addEngine_56 : decode cX6_addEngine 56 = .ok (.bipush 14, 2) := by decide +kernel
theorem dX6_addEngine_58 : decode cX6_addEngine 58 = .ok (.iload_n 2, 1) := by decide +kernel
theorem dX6_addEngine_59 : decode cX6_addEngine 59 = .ok (.imul, 1) := by decide +kernel
theorem dX6_addEngine_60 : decode cX6_addEngine 60 = .ok (.iadd, 1) := by decide +kernel
theorem dX6_addEngine_61 : decode cX6_addEngine 61 = .ok (.invokevirtual 77, 3) := by decide +kernel
theorem dX6_addEngine_64 : decode cX6_addEngine 64 = .ok (.ifCond .ne 9, 3) := by decide +kernel
theorem dX6_addEngine_67 : decode cX6_addEngine 67 = .ok (.aload_n 0, 1) := by decide +kernel
theorem dX6_addEngine_68 : decode cX6_addEngine 68 = .ok (.iconst 3, 1) := by decide +kernel
theorem dX6_addEngine_69 : decode cX6_addEngine 69 = .ok (.invokevirtual 88, 3) := by decide +kernel
theorem dX6_addEngine_72 : decode cX6_addEngine 72 = .ok (.ireturn, 1) := by decide +kernel
theorem dX6_addEngine_73 : decode cX6_addEngine 73 = .ok (.bipush 9, 2) := by decide +kernel
theorem dX6_addEngine_75 : decode cX6_addEngine 75 = .ok (.newarray .int, 2) := by decide +kernel
theorem dX6_addEngine_77 : decode cX6_addEngine 77 = .ok (.dup, 1) := by decide +kernel
theorem dX6_addEngine_78 : decode cX6_addEngine 78 = .ok (.iconst 0, 1) := by decide +kernel
theorem dX6_addEngine_79 : decode cX6_addEngine 79 = .ok (.iload_n 1, 1) := by decide +kernel
theorem dX6_addEngine_80 : decode cX6_addEngine 80 = .ok (.bipush 14, 2) := by decide +kernel
theorem dX6_addEngine_82 : decode cX6_addEngine 82 = .ok (.iload_n 2, 1) := by decide +kernel
theorem dX6_addEngine_83 : decode cX6_addEngine 83 = .ok (.imul, 1) := by decide +kernel
theorem dX6_addEngine_84 : decode cX6_addEngine 84 = .ok (.iadd, 1) := by decide +kernel
theorem dX6_addEngine_85 : decode cX6_addEngine 85 = .ok (.iastore, 1) := by decide +kernel
theorem dX6_addEngine_86 : decode cX6_addEngine 86 = .ok (.dup, 1) := by decide +kernel
theorem dX6_addEngine_87 : decode cX6_addEngine 87 = .ok (.iconst 1, 1) := by decide +kernel
theorem dX6_addEngine_88 : decode cX6_addEngine 88 = .ok (.iload_n 3, 1) := by decide +kernel
theorem dX6_addEngine_89 : decode cX6_addEngine 89 = .ok (.iastore, 1) := by decide +kernel
theorem dX6_addEngine_90 : decode cX6_addEngine 90 = .ok (.dup, 1) := by decide +kernel
theorem dX6_addEngine_91 : decode cX6_addEngine 91 = .ok (.iconst 2, 1) := by decide +kernel
theorem dX6_addEngine_92 : decode cX6_addEngine 92 = .ok (.iload 4, 2) := by decide +kernel
theorem dX6_addEngine_94 : decode cX6_addEngine 94 = .ok (.iastore, 1) := by decide +kernel
theorem dX6_addEngine_95 : decode cX6_addEngine 95 = .ok (.dup, 1) := by decide +kernel
theorem dX6_addEngine_96 : decode cX6_addEngine 96 = .ok (.iconst 3, 1) := by decide +kernel
theorem dX6_addEngine_97 : decode cX6_addEngine 97 = .ok (.bipush 60, 2) := by decide +kernel
theorem dX6_addEngine_99 : decode cX6_addEngine 99 = .ok (.iastore, 1) := by decide +kernel
theorem dX6_addEngine_100 : decode cX6_addEngine 100 = .ok (.dup, 1) := by decide +kernel
theorem dX6_addEngine_101 : decode cX6_addEngine 101 = .ok (.iconst 4, 1) := by decide +kernel
theorem dX6_addEngine_102 : decode cX6_addEngine 102 = .ok (.iconst 0, 1) := by decide +kernel
theorem dX6_addEngine_103 : decode cX6_addEngine 103 = .ok (.iastore, 1) := by decide +kernel
theorem dX6_addEngine_104 : decode cX6_addEngine 104 = .ok (.dup, 1) := by decide +kernel
theorem dX6_addEngine_105 : decode cX6_addEngine 105 = .ok (.iconst 5, 1) := by decide +kernel
theorem dX6_addEngine_106 : decode cX6_addEngine 106 = .ok (.iconst 0, 1) := by decide +kernel
theorem dX6_addEngine_107 : decode cX6_addEngine 107 = .ok (.iastore, 1) := by decide +kernel
theorem dX6_addEngine_108 : decode cX6_addEngine 108 = .ok (.dup, 1) := by decide +kernel
theorem dX6_addEngine_109 : decode cX6_addEngine 109 = .ok (.bipush 6, 2) := by decide +kernel
theorem dX6_addEngine_111 : decode cX6_addEngine 111 = .ok (.iconst (-1), 1) := by decide +kernel
theorem dX6_addEngine_112 : decode cX6_addEngine 112 = .ok (.iastore, 1) := by decide +kernel
theorem dX6_addEngine_113 : decode cX6_addEngine 113 = .ok (.dup, 1) := by decide +kernel
theorem dX6_addEngine_114 : decode cX6_addEngine 114 = .ok (.bipush 7, 2) := by decide +kernel
theorem dX6_addEngine_116 : decode cX6_addEngine 116 = .ok (.iconst (-1), 1) := by decide +kernel
theorem dX6_addEngine_117 : decode cX6_addEngine 117 = .ok (.iastore, 1) := by decide +kernel
theorem dX6_addEngine_118 : decode cX6_addEngine 118 = .ok (.dup, 1) := by decide +kernel
theorem dX6_addEngine_119 : decode cX6_addEngine 119 = .ok (.bipush 8, 2) := by decide +kernel
theorem dX6_addEngine_121 : decode cX6_addEngine 121 = .ok (.iconst 0, 1) := by decide +kernel
theorem dX6_addEngine_122 : decode cX6_addEngine 122 = .ok (.iastore, 1) := by decide +kernel
theorem dX6_addEngine_123 : decode cX6_addEngine 123 = .ok (.astore 5, 2) := by decide +kernel
theorem dX6_addEngine_125 : decode cX6_addEngine 125 = .ok (.aload 5, 2) := by decide +kernel
theorem dX6_addEngine_127 : decode cX6_addEngine 127 = .ok (.iconst 0, 1) := by decide +kernel
theorem dX6_addEngine_128 : decode cX6_addEngine 128 = .ok (.aload_n 0, 1) := by decide +kernel
theorem dX6_addEngine_129 : decode cX6_addEngine 129 = .ok (.getfield 19, 3) := by decide +kernel
theorem dX6_addEngine_132 : decode cX6_addEngine 132 = .ok (.bipush 9, 2) := by decide +kernel
theorem dX6_addEngine_134 : decode cX6_addEngine 134 = .ok (.aload_n 0, 1) := by decide +kernel
theorem dX6_addEngine_135 : decode cX6_addEngine 135 = .ok (.getfield 62, 3) := by decide +kernel
theorem dX6_addEngine_138 : decode cX6_addEngine 138 = .ok (.imul, 1) := by decide +kernel
theorem dX6_addEngine_139 : decode cX6_addEngine 139 = .ok (.bipush 9, 2) := by decide +kernel
theorem dX6_addEngine_141 : decode cX6_addEngine 141 = .ok (.invokestatic 94, 3) := by decide +kernel
theorem dX6_addEngine_144 : decode cX6_addEngine 144 = .ok (.aload_n 0, 1) := by decide +kernel
theorem dX6_addEngine_145 : decode cX6_addEngine 145 = .ok (.dup, 1) := by decide +kernel
theorem dX6_addEngine_146 : decode cX6_addEngine 146 = .ok (.getfield 62, 3) := by decide +kernel
theorem dX6_addEngine_149 : decode cX6_addEngine 149 = .ok (.iconst 1, 1) := by decide +kernel
theorem dX6_addEngine_150 : decode cX6_addEngine 150 = .ok (.iadd, 1) := by decide +kernel
theorem dX6_addEngine_151 : decode cX6_addEngine 151 = .ok (.putfield 62, 3) := by decide +kernel
theorem dX6_addEngine_154 : decode cX6_addEngine 154 = .ok (.aload_n 0, 1) := by decide +kernel
theorem dX6_addEngine_155 : decode cX6_addEngine 155 = .ok (.getfield 62, 3) := by decide +kernel
theorem dX6_addEngine_158 : decode cX6_addEngine 158 = .ok (.iconst 1, 1) := by decide +kernel
theorem dX6_addEngine_159 : decode cX6_addEngine 159 = .ok (.isub, 1) := by decide +kernel
theorem dX6_addEngine_160 : decode cX6_addEngine 160 = .ok (.ireturn, 1) := by decide +kernel
theorem dX6_stoke_0 : decode cX6_stoke 0 = .ok (.aload_n 0, 1) := by decide +kernel
theorem dX6_stoke_1 : decode cX6_stoke 1 = .ok (.iconst 0, 1) := by decide +kernel
theorem dX6_stoke_2 : decode cX6_stoke 2 = .ok (.putfield 38, 3) := by decide +kernel
theorem dX6_stoke_5 : decode cX6_stoke 5 = .ok (.aload_n 0, 1) := by decide +kernel
theorem dX6_stoke_6 : decode cX6_stoke 6 = .ok (.iload_n 1, 1) := by decide +kernel
theorem dX6_stoke_7 : decode cX6_stoke 7 = .ok (.invokevirtual 116, 3) := by decide +kernel
theorem dX6_stoke_10 : decode cX6_stoke 10 = .ok (.ifCond .ne 9, 3) := by decide +kernel
theorem dX6_stoke_13 : decode cX6_stoke 13 = .ok (.aload_n 0, 1) := by decide +kernel
theorem dX6_stoke_14 : decode cX6_stoke 14 = .ok (.iconst 1, 1) := by decide +kernel
theorem dX6_stoke_15 : decode cX6_stoke 15 = .ok (.invokevirtual 88, 3) := by decide +kernel
theorem dX6_stoke_18 : decode cX6_stoke 18 = .ok (.ireturn, 1) := by decide +kernel
theorem dX6_stoke_19 : decode cX6_stoke 19 = .ok (.iload_n 2, 1) := by decide +kernel
theorem dX6_stoke_20 : decode cX6_stoke 20 = .ok (.iconst 1, 1) := by decide +kernel
theorem dX6_stoke_21 : decode cX6_stoke 21 = .ok (.bipush 100, 2) := by decide +kernel
theorem dX6_stoke_23 : decode cX6_stoke 23 = .ok (.invokestatic 42, 3) := by decide +kernel
theorem dX6_stoke_26 : decode cX6_stoke 26 = .ok (.ifCond .ne 9, 3) := by decide +kernel
theorem dX6_stoke_29 : decode cX6_stoke 29 = .ok (.aload_n 0, 1) := by decide +kernel
theorem dX6_stoke_30 : decode cX6_stoke 30 = .ok (.iconst 2, 1) := by decide +kernel
theorem dX6_stoke_31 : decode cX6_stoke 31 = .ok (.invokevirtual 88, 3) := by decide +kernel
theorem dX6_stoke_34 : decode cX6_stoke 34 = .ok (.ireturn, 1) := by decide +kernel
theorem dX6_stoke_35 : decode cX6_stoke 35 = .ok (.aload_n 0, 1) := by decide +kernel
theorem dX6_stoke_36 : decode cX6_stoke 36 = .ok (.iload_n 1, 1) := by decide +kernel
theorem dX6_stoke_37 : decode cX6_stoke 37 = .ok (.iconst 3, 1) := by decide +kernel
theorem dX6_stoke_38 : decode cX6_stoke 38 = .ok (.invokevirtual 81, 3) := by decide +kernel
theorem dX6_stoke_41 : decode cX6_stoke 41 = .ok (.iload_n 2, 1) := by decide +kernel
theorem dX6_stoke_42 : decode cX6_stoke 42 = .ok (.iadd, 1) := by decide +kernel
theorem dX6_stoke_43 : decode cX6_stoke 43 = .ok (.sipush 200, 3) := by decide +kernel
theorem dX6_stoke_46 : decode cX6_stoke 46 = .ok (.if_icmp .le 9, 3) := by decide +kernel
theorem dX6_stoke_49 : decode cX6_stoke 49 = .ok (.aload_n 0, 1) := by decide +kernel
theorem dX6_stoke_50 : decode cX6_stoke 50 = .ok (.iconst 3, 1) := by decide +kernel
theorem dX6_stoke_51 : decode cX6_stoke 51 = .ok (.invokevirtual 88, 3) := by decide +kernel
theorem dX6_stoke_54 : decode cX6_stoke 54 = .ok (.ireturn, 1) := by decide +kernel
theorem dX6_stoke_55 : decode cX6_stoke 55 = .ok (.aload_n 0, 1) := by decide +kernel
theorem dX6_stoke_56 : decode cX6_stoke 56 = .ok (.iload_n 1, 1) := by decide +kernel
theorem dX6_stoke_57 : decode cX6_stoke 57 = .ok (.iconst 3, 1) := by decide +kernel
theorem dX6_stoke_58 : decode cX6_stoke 58 = .ok (.aload_n 0, 1) := by decide +kernel
theorem dX6_stoke_59 : decode cX6_stoke 59 = .ok (.iload_n 1, 1) := by decide +kernel
theorem dX6_stoke_60 : decode cX6_stoke 60 = .ok (.iconst 3, 1) := by decide +kernel
theorem dX6_stoke_61 : decode cX6_stoke 61 = .ok (.invokevirtual 81, 3) := by decide +kernel
theorem dX6_stoke_64 : decode cX6_stoke 64 = .ok (.iload_n 2, 1) := by decide +kernel
theorem dX6_stoke_65 : decode cX6_stoke 65 = .ok (.iadd, 1) := by decide +kernel
theorem dX6_stoke_66 : decode cX6_stoke 66 = .ok (.invokevirtual 119, 3) := by decide +kernel
theorem dX6_stoke_69 : decode cX6_stoke 69 = .ok (.aload_n 0, 1) := by decide +kernel
theorem dX6_stoke_70 : decode cX6_stoke 70 = .ok (.iload_n 1, 1) := by decide +kernel
theorem dX6_stoke_71 : decode cX6_stoke 71 = .ok (.iconst 3, 1) := by decide +kernel
theorem dX6_stoke_72 : decode cX6_stoke 72 = .ok (.invokevirtual 81, 3) := by decide +kernel
theorem dX6_stoke_75 : decode cX6_stoke 75 = .ok (.ireturn, 1) := by decide +kernel
theorem dX6_way_0 : decode cX6_way 0 = .ok (.iconst 0, 1) := by decide +kernel
theorem dX6_way_1 : decode cX6_way 1 = .ok (.istore_n 3, 1) := by decide +kernel
theorem dX6_way_2 : decode cX6_way 2 = .ok (.iload_n 3, 1) := by decide +kernel
theorem dX6_way_3 : decode cX6_way 3 = .ok (.sipush 140, 3) := by decide +kernel
theorem dX6_way_6 : decode cX6_way 6 = .ok (.if_icmp .ge 25, 3) := by decide +kernel
theorem dX6_way_9 : decode cX6_way 9 = .ok (.aload_n 0, 1) := by decide +kernel
theorem dX6_way_10 : decode cX6_way 10 = .ok (.getfield 32, 3) := by decide +kernel
theorem dX6_way_13 : decode cX6_way 13 = .ok (.iload_n 3, 1) := by decide +kernel
theorem dX6_way_14 : decode cX6_way 14 = .ok (.iload_n 3, 1) := by decide +kernel
theorem dX6_way_15 : decode cX6_way 15 = .ok (.iload_n 1, 1) := by decide +kernel
theorem dX6_way_16 : decode cX6_way 16 = .ok (.if_icmp .ne 7, 3) := by decide +kernel
theorem dX6_way_19 : decode cX6_way 19 = .ok (.iconst 0, 1) := by decide +kernel
theorem dX6_way_20 : decode cX6_way 20 = .ok (.goto 4, 3) := by decide +kernel
theorem dX6_way_23 : decode cX6_way 23 = .ok (.iconst (-1), 1) := by decide +kernel
theorem dX6_way_24 : decode cX6_way 24 = .ok (.iastore, 1) := by decide +kernel
theorem dX6_way_25 : decode cX6_way 25 = .ok (.iinc 3 1, 3) := by decide +kernel
theorem dX6_way_28 : decode cX6_way 28 = .ok (.goto (-26), 3) := by decide +kernel
theorem dX6_way_31 : decode cX6_way 31 = .ok (.iconst 0, 1) := by decide +kernel
theorem dX6_way_32 : decode cX6_way 32 = .ok (.istore_n 3, 1) := by decide +kernel
theorem dX6_way_33 : decode cX6_way 33 = .ok (.iload_n 3, 1) := by decide +kernel
theorem dX6_way_34 : decode cX6_way 34 = .ok (.sipush 140, 3) := by decide +kernel
theorem dX6_way_37 : decode cX6_way 37 = .ok (.if_icmp .ge 183, 3) := by decide +kernel
theorem dX6_way_40 : decode cX6_way 40 = .ok (.aload_n 0, 1) := by decide +kernel
theorem dX6_way_41 : decode cX6_way 41 = .ok (.getfield 32, 3) := by decide +kernel
theorem dX6_way_44 : decode cX6_way 44 = .ok (.iload_n 2, 1) := by decide +kernel
theorem dX6_way_45 : decode cX6_way 45 = .ok (.iaload, 1) := by decide +kernel
theorem dX6_way_46 : decode cX6_way 46 = .ok (.iconst (-1), 1) := by decide +kernel
theorem dX6_way_47 : decode cX6_way 47 = .ok (.if_icmp .ne 173, 3) := by decide +kernel
theorem dX6_way_50 : decode cX6_way 50 = .ok (.iconst 0, 1) := by decide +kernel
theorem dX6_way_51 : decode cX6_way 51 = .ok (.istore 4, 2) := by decide +kernel
theorem dX6_way_53 : decode cX6_way 53 = .ok (.iload 4, 2) := by decide +kernel
theorem dX6_way_55 : decode cX6_way 55 = .ok (.sipush 140, 3) := by decide +kernel
theorem dX6_way_58 : decode cX6_way 58 = .ok (.if_icmp .ge 156, 3) := by decide +kernel
theorem dX6_way_61 : decode cX6_way 61 = .ok (.aload_n 0, 1) := by decide +kernel
end
section
theorem dX6_way_62 : decode cX6_way 62 = .ok (.getfield 32, 3) := by decide +kernel
theorem dX6_way_65 : decode cX6_way 65 = .ok (.iload 4, 2) := by decide +kernel
theorem dX6_way_67 : decode cX6_way 67 = .ok (.iaload, 1) := by decide +kernel
theorem dX6_way_68 : decode cX6_way 68 = .ok (.iconst (-1), 1) := by decide +kernel
theorem dX6_way_69 : decode cX6_way 69 = .ok (.if_icmp .ne 139, 3) := by decide +kernel
theorem dX6_way_72 : decode cX6_way 72 = .ok (.aload_n 0, 1) := by decide +kernel
theorem dX6_way_73 : decode cX6_way 73 = .ok (.iload 4, 2) := by decide +kernel
theorem dX6_way_75 : decode cX6_way 75 = .ok (.invokevirtual 77, 3) := by decide +kernel
theorem dX6_way_78 : decode cX6_way 78 = .ok (.ifCond .ne 6, 3) := by decide +kernel
theorem dX6_way_81 : decode cX6_way 81 = .ok (.goto 127, 3) := by decide +kernel
theorem dX6_way_84 : decode cX6_way 84 = .ok (.iload 4, 2) := by decide +kernel
theorem dX6_way_86 : decode cX6_way 86 = .ok (.bipush 14, 2) := by decide +kernel
theorem dX6_way_88 : decode cX6_way 88 = .ok (.if_icmp .lt 17, 3) := by decide +kernel
theorem dX6_way_91 : decode cX6_way 91 = .ok (.aload_n 0, 1) := by decide +kernel
theorem dX6_way_92 : decode cX6_way 92 = .ok (.getfield 32, 3) := by decide +kernel
theorem dX6_way_95 : decode cX6_way 95 = .ok (.iload 4, 2) := by decide +kernel
theorem dX6_way_97 : decode cX6_way 97 = .ok (.bipush 14, 2) := by decide +kernel
theorem dX6_way_99 : decode cX6_way 99 = .ok (.isub, 1) := by decide +kernel
theorem dX6_way_100 : decode cX6_way 100 = .ok (.iaload, 1) := by decide +kernel
theorem dX6_way_101 : decode cX6_way 101 = .ok (.iload_n 3, 1) := by decide +kernel
theorem dX6_way_102 : decode cX6_way 102 = .ok (.if_icmp .eq 28, 3) := by decide +kernel
theorem dX6_way_105 : decode cX6_way 105 = .ok (.iload 4, 2) := by decide +kernel
theorem dX6_way_107 : decode cX6_way 107 = .ok (.bipush 14, 2) := by decide +kernel
theorem dX6_way_109 : decode cX6_way 109 = .ok (.iadd, 1) := by decide +kernel
theorem dX6_way_110 : decode cX6_way 110 = .ok (.sipush 140, 3) := by decide +kernel
theorem dX6_way_113 : decode cX6_way 113 = .ok (.if_icmp .ge 21, 3) := by decide +kernel
theorem dX6_way_116 : decode cX6_way 116 = .ok (.aload_n 0, 1) := by decide +kernel
theorem dX6_way_117 : decode cX6_way 117 = .ok (.getfield 32, 3) := by decide +kernel
theorem dX6_way_120 : decode cX6_way 120 = .ok (.iload 4, 2) := by decide +kernel
theorem dX6_way_122 : decode cX6_way 122 = .ok (.bipush 14, 2) := by decide +kernel
theorem dX6_way_124 : decode cX6_way 124 = .ok (.iadd, 1) := by decide +kernel
theorem dX6_way_125 : decode cX6_way 125 = .ok (.iaload, 1) := by decide +kernel
theorem dX6_way_126 : decode cX6_way 126 = .ok (.iload_n 3, 1) := by decide +kernel
theorem dX6_way_127 : decode cX6_way 127 = .ok (.if_icmp .ne 7, 3) := by decide +kernel
theorem dX6_way_130 : decode cX6_way 130 = .ok (.iconst 1, 1) := by decide +kernel
theorem dX6_way_131 : decode cX6_way 131 = .ok (.goto 4, 3) := by decide +kernel
theorem dX6_way_134 : decode cX6_way 134 = .ok (.iconst 0, 1) := by decide +kernel
theorem dX6_way_135 : decode cX6_way 135 = .ok (.istore 5, 2) := by decide +kernel
theorem dX6_way_137 : decode cX6_way 137 = .ok (.iload 5, 2) := by decide +kernel
theorem dX6_way_139 : decode cX6_way 139 = .ok (.ifCond .ne 47, 3) := by decide +kernel
theorem dX6_way_142 : decode cX6_way 142 = .ok (.iload 4, 2) := by decide +kernel
theorem dX6_way_144 : decode cX6_way 144 = .ok (.bipush 14, 2) := by decide +kernel
theorem dX6_way_146 : decode cX6_way 146 = .ok (.irem, 1) := by decide +kernel
theorem dX6_way_147 : decode cX6_way 147 = .ok (.ifCond .le 16, 3) := by decide +kernel
theorem dX6_way_150 : decode cX6_way 150 = .ok (.aload_n 0, 1) := by decide +kernel
theorem dX6_way_151 : decode cX6_way 151 = .ok (.getfield 32, 3) := by decide +kernel
theorem dX6_way_154 : decode cX6_way 154 = .ok (.iload 4, 2) := by decide +kernel
theorem dX6_way_156 : decode cX6_way 156 = .ok (.iconst 1, 1) := by decide +kernel
theorem dX6_way_157 : decode cX6_way 157 = .ok (.isub, 1) := by decide +kernel
theorem dX6_way_158 : decode cX6_way 158 = .ok (.iaload, 1) := by decide +kernel
theorem dX6_way_159 : decode cX6_way 159 = .ok (.iload_n 3, 1) := by decide +kernel
theorem dX6_way_160 : decode cX6_way 160 = .ok (.if_icmp .eq 26, 3) := by decide +kernel
theorem dX6_way_163 : decode cX6_way 163 = .ok (.iload 4, 2) := by decide +kernel
theorem dX6_way_165 : decode cX6_way 165 = .ok (.bipush 14, 2) := by decide +kernel
theorem dX6_way_167 : decode cX6_way 167 = .ok (.irem, 1) := by decide +kernel
theorem dX6_way_168 : decode cX6_way 168 = .ok (.bipush 13, 2) := by decide +kernel
theorem dX6_way_170 : decode cX6_way 170 = .ok (.if_icmp .ge 20, 3) := by decide +kernel
theorem dX6_way_173 : decode cX6_way 173 = .ok (.aload_n 0, 1) := by decide +kernel
theorem dX6_way_174 : decode cX6_way 174 = .ok (.getfield 32, 3) := by decide +kernel
theorem dX6_way_177 : decode cX6_way 177 = .ok (.iload 4, 2) := by decide +kernel
theorem dX6_way_179 : decode cX6_way 179 = .ok (.iconst 1, 1) := by decide +kernel
theorem dX6_way_180 : decode cX6_way 180 = .ok (.iadd, 1) := by decide +kernel
theorem dX6_way_181 : decode cX6_way 181 = .ok (.iaload, 1) := by decide +kernel
theorem dX6_way_182 : decode cX6_way 182 = .ok (.iload_n 3, 1) := by decide +kernel
theorem dX6_way_183 : decode cX6_way 183 = .ok (.if_icmp .ne 7, 3) := by decide +kernel
theorem dX6_way_186 : decode cX6_way 186 = .ok (.iconst 1, 1) := by decide +kernel
theorem dX6_way_187 : decode cX6_way 187 = .ok (.goto 4, 3) := by decide +kernel
theorem dX6_way_190 : decode cX6_way 190 = .ok (.iconst 0, 1) := by decide +kernel
theorem dX6_way_191 : decode cX6_way 191 = .ok (.istore 5, 2) := by decide +kernel
theorem dX6_way_193 : decode cX6_way 193 = .ok (.iload 5, 2) := by decide +kernel
theorem dX6_way_195 : decode cX6_way 195 = .ok (.ifCond .eq 13, 3) := by decide +kernel
theorem dX6_way_198 : decode cX6_way 198 = .ok (.aload_n 0, 1) := by decide +kernel
theorem dX6_way_199 : decode cX6_way 199 = .ok (.getfield 32, 3) := by decide +kernel
theorem dX6_way_202 : decode cX6_way 202 = .ok (.iload 4, 2) := by decide +kernel
theorem dX6_way_204 : decode cX6_way 204 = .ok (.iload_n 3, 1) := by decide +kernel
theorem dX6_way_205 : decode cX6_way 205 = .ok (.iconst 1, 1) := by decide +kernel
theorem dX6_way_206 : decode cX6_way 206 = .ok (.iadd, 1) := by decide +kernel
theorem dX6_way_207 : decode cX6_way 207 = .ok (.iastore, 1) := by decide +kernel
theorem dX6_way_208 : decode cX6_way 208 = .ok (.iinc 4 1, 3) := by decide +kernel
theorem dX6_way_211 : decode cX6_way 211 = .ok (.goto (-158), 3) := by decide +kernel
theorem dX6_way_214 : decode cX6_way 214 = .ok (.iinc 3 1, 3) := by decide +kernel
theorem dX6_way_217 : decode cX6_way 217 = .ok (.goto (-184), 3) := by decide +kernel
theorem dX6_way_220 : decode cX6_way 220 = .ok (.aload_n 0, 1) := by decide +kernel
theorem dX6_way_221 : decode cX6_way 221 = .ok (.getfield 32, 3) := by decide +kernel
theorem dX6_way_224 : decode cX6_way 224 = .ok (.iload_n 2, 1) := by decide +kernel
theorem dX6_way_225 : decode cX6_way 225 = .ok (.iaload, 1) := by decide +kernel
theorem dX6_way_226 : decode cX6_way 226 = .ok (.ireturn, 1) := by decide +kernel
theorem dX6_drive_0 : decode cX6_drive 0 = .ok (.aload_n 0, 1) := by decide +kernel
theorem dX6_drive_1 : decode cX6_drive 1 = .ok (.iconst 0, 1) := by decide +kernel
theorem dX6_drive_2 : decode cX6_drive 2 = .ok (.putfield 38, 3) := by decide +kernel
theorem dX6_drive_5 : decode cX6_drive 5 = .ok (.aload_n 0, 1) := by decide +kernel
theorem dX6_drive_6 : decode cX6_drive 6 = .ok (.iload_n 1, 1) := by decide +kernel
theorem dX6_drive_7 : decode cX6_drive 7 = .ok (.invokevirtual 116, 3) := by decide +kernel
theorem dX6_drive_10 : decode cX6_drive 10 = .ok (.ifCond .eq 11, 3) := by decide +kernel
theorem dX6_drive_13 : decode cX6_drive 13 = .ok (.iload_n 2, 1) := by decide +kernel
theorem dX6_drive_14 : decode cX6_drive 14 = .ok (.iload_n 3, 1) := by decide +kernel
theorem dX6_drive_15 : decode cX6_drive 15 = .ok (.invokestatic 84, 3) := by decide +kernel
theorem dX6_drive_18 : decode cX6_drive 18 = .ok (.ifCond .ne 9, 3) := by decide +kernel
theorem dX6_drive_21 : decode cX6_drive 21 = .ok (.aload_n 0, 1) := by decide +kernel
theorem dX6_drive_22 : decode cX6_drive 22 = .ok (.iconst 1, 1) := by decide +kernel
theorem dX6_drive_23 : decode cX6_drive 23 = .ok (.invokevirtual 88, 3) := by decide +kernel
theorem dX6_drive_26 : decode cX6_drive 26 = .ok (.ireturn, 1) := by decide +kernel
theorem dX6_drive_27 : decode cX6_drive 27 = .ok (.iload_n 2, 1) := by decide +kernel
theorem dX6_drive_28 : decode cX6_drive 28 = .ok (.bipush 14, 2) := by decide +kernel
theorem dX6_drive_30 : decode cX6_drive 30 = .ok (.iload_n 3, 1) := by decide +kernel
theorem dX6_drive_31 : decode cX6_drive 31 = .ok (.imul, 1) := by decide +kernel
theorem dX6_drive_32 : decode cX6_drive 32 = .ok (.iadd, 1) := by decide +kernel
theorem dX6_drive_33 : decode cX6_drive 33 = .ok (.istore 4, 2) := by decide +kernel
theorem dX6_drive_35 : decode cX6_drive 35 = .ok (.aload_n 0, 1) := by decide +kernel
theorem dX6_drive_36 : decode cX6_drive 36 = .ok (.iload_n 1, 1) := by decide +kernel
theorem dX6_drive_37 : decode cX6_drive 37 = .ok (.iconst 5, 1) := by decide +kernel
theorem dX6_drive_38 : decode cX6_drive 38 = .ok (.invokevirtual 81, 3) := by decide +kernel
theorem dX6_drive_41 : decode cX6_drive 41 = .ok (.ifCond .gt 30, 3) := by decide +kernel
theorem dX6_drive_44 : decode cX6_drive 44 = .ok (.aload_n 0, 1) := by decide +kernel
theorem dX6_drive_45 : decode cX6_drive 45 = .ok (.iload_n 1, 1) := by decide +kernel
theorem dX6_drive_46 : decode cX6_drive 46 = .ok (.iconst 0, 1) := by decide +kernel
theorem dX6_drive_47 : decode cX6_drive 47 = .ok (.invokevirtual 81, 3) := by decide +kernel
theorem dX6_drive_50 : decode cX6_drive 50 = .ok (.iload 4, 2) := by decide +kernel
theorem dX6_drive_52 : decode cX6_drive 52 = .ok (.if_icmp .eq 19, 3) := by decide +kernel
theorem dX6_drive_55 : decode cX6_drive 55 = .ok (.aload_n 0, 1) := by decide +kernel
theorem dX6_drive_56 : decode cX6_drive 56 = .ok (.aload_n 0, 1) := by decide +kernel
theorem dX6_drive_57 : decode cX6_drive 57 = .ok (.iload_n 1, 1) := by decide +kernel
theorem dX6_drive_58 : decode cX6_drive 58 = .ok (.iconst 0, 1) := by decide +kernel
theorem dX6_drive_59 : decode cX6_drive 59 = .ok (.invokevirtual 81, 3) := by decide +kernel
theorem dX6_drive_62 : decode cX6_drive 62 = .ok (.iload 4, 2) := by decide +kernel
theorem dX6_drive_64 : decode cX6_drive 64 = .ok (.invokevirtual 122, 3) := by decide +kernel
theorem dX6_drive_67 : decode cX6_drive 67 = .ok (.iconst (-1), 1) := by decide +kernel
theorem dX6_drive_68 : decode cX6_drive 68 = .ok (.if_icmp .ne 9, 3) := by decide +kernel
theorem dX6_drive_71 : decode cX6_drive 71 = .ok (.aload_n 0, 1) := by decide +kernel
theorem dX6_drive_72 : decode cX6_drive 72 = .ok (.iconst 2, 1) := by decide +kernel
theorem dX6_drive_73 : decode cX6_drive 73 = .ok (.invokevirtual 88, 3) := by decide +kernel
theorem dX6_drive_76 : decode cX6_drive 76 = .ok (.ireturn, 1) := by decide +kernel
theorem dX6_drive_77 : decode cX6_drive 77 = .ok (.aload_n 0, 1) := by decide +kernel
theorem dX6_drive_78 : decode cX6_drive 78 = .ok (.iload_n 1, 1) := by decide +kernel
theorem dX6_drive_79 : decode cX6_drive 79 = .ok (.iconst 5, 1) := by decide +kernel
theorem dX6_drive_80 : decode cX6_drive 80 = .ok (.aload_n 0, 1) := by decide +kernel
theorem dX6_drive_81 : decode cX6_drive 81 = .ok (.getfield 32, 3) := by decide +kernel
theorem dX6_drive_84 : decode cX6_drive 84 = .ok (.iload 4, 2) := by decide +kernel
theorem dX6_drive_86 : decode cX6_drive 86 = .ok (.iaload, 1) := by decide +kernel
theorem dX6_drive_87 : decode cX6_drive 87 = .ok (.iconst 5, 1) := by decide +kernel
theorem dX6_drive_88 : decode cX6_drive 88 = .ok (.aload_n 0, 1) := by decide +kernel
theorem dX6_drive_89 : decode cX6_drive 89 = .ok (.iload_n 1, 1) := by decide +kernel
theorem dX6_drive_90 : decode cX6_drive 90 = .ok (.iconst 1, 1) := by decide +kernel
theorem dX6_drive_91 : decode cX6_drive 91 = .ok (.invokevirtual 81, 3) := by decide +kernel
theorem dX6_drive_94 : decode cX6_drive 94 = .ok (.isub, 1) := by decide +kernel
theorem dX6_drive_95 : decode cX6_drive 95 = .ok (.imul, 1) := by decide +kernel
theorem dX6_drive_96 : decode cX6_drive 96 = .ok (.invokevirtual 119, 3) := by decide +kernel
theorem dX6_drive_99 : decode cX6_drive 99 = .ok (.aload_n 0, 1) := by decide +kernel
theorem dX6_drive_100 : decode cX6_drive 100 = .ok (.iload_n 1, 1) := by decide +kernel
theorem dX6_drive_101 : decode cX6_drive 101 = .ok (.bipush 6, 2) := by decide +kernel
theorem dX6_drive_103 : decode cX6_drive 103 = .ok (.iload 4, 2) := by decide +kernel
theorem dX6_drive_105 : decode cX6_drive 105 = .ok (.invokevirtual 119, 3) := by decide +kernel
theorem dX6_drive_108 : decode cX6_drive 108 = .ok (.aload_n 0, 1) := by decide +kernel
theorem dX6_drive_109 : decode cX6_drive 109 = .ok (.iload_n 1, 1) := by decide +kernel
theorem dX6_drive_110 : decode cX6_drive 110 = .ok (.bipush 7, 2) := by decide +kernel
theorem dX6_drive_112 : decode cX6_drive 112 = .ok (.iconst (-1), 1) := by decide +kernel
theorem dX6_drive_113 : decode cX6_drive 113 = .ok (.invokevirtual 119, 3) := by decide +kernel
theorem dX6_drive_116 : decode cX6_drive 116 = .ok (.iconst 0, 1) := by decide +kernel
theorem dX6_drive_117 : decode cX6_drive 117 = .ok (.istore 5, 2) := by decide +kernel
theorem dX6_drive_119 : decode cX6_drive 119 = .ok (.iload 5, 2) := by decide +kernel
theorem dX6_drive_121 : decode cX6_drive 121 = .ok (.aload_n 0, 1) := by decide +kernel
theorem dX6_drive_122 : decode cX6_drive 122 = .ok (.getfield 62, 3) := by decide +kernel
theorem dX6_drive_125 : decode cX6_drive 125 = .ok (.if_icmp .ge 30, 3) := by decide +kernel
theorem dX6_drive_128 : decode cX6_drive 128 = .ok (.aload_n 0, 1) := by decide +kernel
theorem dX6_drive_129 : decode cX6_drive 129 = .ok (.iload 5, 2) := by decide +kernel
theorem dX6_drive_131 : decode cX6_drive 131 = .ok (.bipush 7, 2) := by decide +kernel
theorem dX6_drive_133 : decode cX6_drive 133 = .ok (.invokevirtual 81, 3) := by decide +kernel
theorem dX6_drive_136 : decode cX6_drive 136 = .ok (.iload_n 1, 1) := by decide +kernel
theorem dX6_drive_137 : decode cX6_drive 137 = .ok (.if_icmp .ne 12, 3) := by decide +kernel
theorem dX6_drive_140 : decode cX6_drive 140 = .ok (.aload_n 0, 1) := by decide +kernel
theorem dX6_drive_141 : decode cX6_drive 141 = .ok (.iload 5, 2) := by decide +kernel
theorem dX6_drive_143 : decode cX6_drive 143 = .ok (.bipush 7, 2) := by decide +kernel
theorem dX6_drive_145 : decode cX6_drive 145 = .ok (.iconst (-1), 1) := by decide +kernel
theorem dX6_drive_146 : decode cX6_drive 146 = .ok (.invokevirtual 119, 3) := by decide +kernel
theorem dX6_drive_149 : decode cX6_drive 149 = .ok (.iinc 5 1, 3) := by decide +kernel
theorem dX6_drive_152 : decode cX6_drive 152 = .ok (.goto (-33), 3) := by decide +kernel
theorem dX6_drive_155 : decode cX6_drive 155 = .ok (.aload_n 0, 1) := by decide +kernel
theorem dX6_drive_156 : decode cX6_drive 156 = .ok (.iload_n 1, 1) := by decide +kernel
theorem dX6_drive_157 : decode cX6_drive 157 = .ok (.iconst 5, 1) := by decide +kernel
theorem dX6_drive_158 : decode cX6_drive 158 = .ok (.invokevirtual 81, 3) := by decide +kernel
theorem dX6_drive_161 : decode cX6_drive 161 = .ok (.ireturn, 1) := by decide +kernel
theorem dX6_stands_0 : decode cX6_stands 0 = .ok (.aload_n 0, 1) := by decide +kernel
theorem dX6_stands_1 : decode cX6_stands 1 = .ok (.iload_n 1, 1) := by decide +kernel
theorem dX6_stands_2 : decode cX6_stands 2 = .ok (.iconst 5, 1) := by decide +kernel
theorem dX6_stands_3 : decode cX6_stands 3 = .ok (.invokevirtual 81, 3) := by decide +kernel
theorem dX6_stands_6 : decode cX6_stands 6 = .ok (.ifCond .ne 7, 3) := by decide +kernel
theorem dX6_stands_9 : decode cX6_stands 9 = .ok (.iconst 1, 1) := by decide +kernel
theorem dX6_stands_10 : decode cX6_stands 10 = .ok (.goto 4, 3) := by decide +kernel
theorem dX6_stands_13 : decode cX6_stands 13 = .ok (.iconst 0, 1) := by decide +kernel
theorem dX6_stands_14 : decode cX6_stands 14 = .ok (.ireturn, 1) := by decide +kernel
theorem dX6_leads_0 : decode cX6_leads 0 = .ok (.iload_n 1, 1) := by decide +kernel
theorem dX6_leads_1 : decode cX6_leads 1 = .ok (.istore_n 3, 1) := by decide +kernel
theorem dX6_leads_2 : decode cX6_leads 2 = .ok (.iload_n 3, 1) := by decide +kernel
theorem dX6_leads_3 : decode cX6_leads 3 = .ok (.iload_n 2, 1) := by decide +kernel
theorem dX6_leads_4 : decode cX6_leads 4 = .ok (.if_icmp .eq 29, 3) := by decide +kernel
theorem dX6_leads_7 : decode cX6_leads 7 = .ok (.aload_n 0, 1) := by decide +kernel
theorem dX6_leads_8 : decode cX6_leads 8 = .ok (.iload_n 3, 1) := by decide +kernel
theorem dX6_leads_9 : decode cX6_leads 9 = .ok (.bipush 7, 2) := by decide +kernel
theorem dX6_leads_11 : decode cX6_leads 11 = .ok (.invokevirtual 81, 3) := by decide +kernel
theorem dX6_leads_14 : decode cX6_leads 14 = .ok (.iconst 0, 1) := by decide +kernel
theorem dX6_leads_15 : decode cX6_leads 15 = .ok (.iconst 5, 1) := by decide +kernel
theorem dX6_leads_16 : decode cX6_leads 16 = .ok (.invokestatic 42, 3) := by decide +kernel
theorem dX6_leads_19 : decode cX6_leads 19 = .ok (.ifCond .eq 14, 3) := by decide +kernel
theorem dX6_leads_22 : decode cX6_leads 22 = .ok (.aload_n 0, 1) := by decide +kernel
theorem dX6_leads_23 : decode cX6_leads 23 = .ok (.iload_n 3, 1) := by decide +kernel
theorem dX6_leads_24 : decode cX6_leads 24 = .ok (.bipush 7, 2) := by decide +kernel
theorem dX6_leads_26 : decode cX6_leads 26 = .ok (.invokevirtual 81, 3) := by decide +kernel
theorem dX6_leads_29 : decode cX6_leads 29 = .ok (.istore_n 3, 1) := by decide +kernel
theorem dX6_leads_30 : decode cX6_leads 30 = .ok (.goto (-28), 3) := by decide +kernel
theorem dX6_leads_33 : decode cX6_leads 33 = .ok (.iload_n 3, 1) := by decide +kernel
theorem dX6_leads_34 : decode cX6_leads 34 = .ok (.iload_n 2, 1) := by decide +kernel
theorem dX6_leads_35 : decode cX6_leads 35 = .ok (.if_icmp .ne 7, 3) := by decide +kernel
theorem dX6_leads_38 : decode cX6_leads 38 = .ok (.iconst 1, 1) := by decide +kernel
theorem dX6_leads_39 : decode cX6_leads 39 = .ok (.goto 4, 3) := by decide +kernel
theorem dX6_leads_42 : decode cX6_leads 42 = .ok (.iconst 0, 1) := by decide +kernel
theorem dX6_leads_43 : decode cX6_leads 43 = .ok (.ireturn, 1) := by decide +kernel
theorem dX6_relay_0 : decode cX6_relay 0 = .ok (.aload_n 0, 1) := by decide +kernel
theorem dX6_relay_1 : decode cX6_relay 1 = .ok (.iconst 0, 1) := by decide +kernel
theorem dX6_relay_2 : decode cX6_relay 2 = .ok (.putfield 38, 3) := by decide +kernel
theorem dX6_relay_5 : decode cX6_relay 5 = .ok (.aload_n 0, 1) := by decide +kernel
theorem dX6_relay_6 : decode cX6_relay 6 = .ok (.iload_n 1, 1) := by decide +kernel
theorem dX6_relay_7 : decode cX6_relay 7 = .ok (.invokevirtual 116, 3) := by decide +kernel
theorem dX6_relay_10 : decode cX6_relay 10 = .ok (.ifCond .eq 11, 3) := by decide +kernel
theorem dX6_relay_13 : decode cX6_relay 13 = .ok (.aload_n 0, 1) := by decide +kernel
theorem dX6_relay_14 : decode cX6_relay 14 = .ok (.iload_n 2, 1) := by decide +kernel
theorem dX6_relay_15 : decode cX6_relay 15 = .ok (.invokevirtual 116, 3) := by decide +kernel
theorem dX6_relay_18 : decode cX6_relay 18 = .ok (.ifCond .ne 9, 3) := by decide +kernel
theorem dX6_relay_21 : decode cX6_relay 21 = .ok (.aload_n 0, 1) := by decide +kernel
theorem dX6_relay_22 : decode cX6_relay 22 = .ok (.iconst 1, 1) := by decide +kernel
theorem dX6_relay_23 : decode cX6_relay 23 = .ok (.invokevirtual 88, 3) := by decide +kernel
theorem dX6_relay_26 : decode cX6_relay 26 = .ok (.ireturn, 1) := by decide +kernel
theorem dX6_relay_27 : decode cX6_relay 27 = .ok (.aload_n 0, 1) := by decide +kernel
theorem dX6_relay_28 : decode cX6_relay 28 = .ok (.iload_n 1, 1) := by decide +kernel
theorem dX6_relay_29 : decode cX6_relay 29 = .ok (.iconst 0, 1) := by decide +kernel
theorem dX6_relay_30 : decode cX6_relay 30 = .ok (.invokevirtual 81, 3) := by decide +kernel
theorem dX6_relay_33 : decode cX6_relay 33 = .ok (.aload_n 0, 1) := by decide +kernel
theorem dX6_relay_34 : decode cX6_relay 34 = .ok (.iload_n 2, 1) := by decide +kernel
theorem dX6_relay_35 : decode cX6_relay 35 = .ok (.iconst 0, 1) := by decide +kernel
theorem dX6_relay_36 : decode cX6_relay 36 = .ok (.invokevirtual 81, 3) := by decide +kernel
theorem dX6_relay_39 : decode cX6_relay 39 = .ok (.invokestatic 125, 3) := by decide +kernel
theorem dX6_relay_42 : decode cX6_relay 42 = .ok (.istore_n 3, 1) := by decide +kernel
theorem dX6_relay_43 : decode cX6_relay 43 = .ok (.aload_n 0, 1) := by decide +kernel
theorem dX6_relay_44 : decode cX6_relay 44 = .ok (.iload_n 1, 1) := by decide +kernel
theorem dX6_relay_45 : decode cX6_relay 45 = .ok (.invokevirtual 128, 3) := by decide +kernel
theorem dX6_relay_48 : decode cX6_relay 48 = .ok (.ifCond .eq 26, 3) := by decide +kernel
theorem dX6_relay_51 : decode cX6_relay 51 = .ok (.aload_n 0, 1) := by decide +kernel
theorem dX6_relay_52 : decode cX6_relay 52 = .ok (.iload_n 2, 1) := by decide +kernel
theorem dX6_relay_53 : decode cX6_relay 53 = .ok (.invokevirtual 128, 3) := by decide +kernel
theorem dX6_relay_56 : decode cX6_relay 56 = .ok (.ifCond .eq 18, 3) := by decide +kernel
theorem dX6_relay_59 : decode cX6_relay 59 = .ok (.iload_n 3, 1) := by decide +kernel
theorem dX6_relay_60 : decode cX6_relay 60 = .ok (.bipush 6, 2) := by decide +kernel
theorem dX6_relay_62 : decode cX6_relay 62 = .ok (.if_icmp .gt 12, 3) := by decide +kernel
theorem dX6_relay_65 : decode cX6_relay 65 = .ok (.aload_n 0, 1) := by decide +kernel
theorem dX6_relay_66 : decode cX6_relay 66 = .ok (.iload_n 2, 1) := by decide +kernel
theorem dX6_relay_67 : decode cX6_relay 67 = .ok (.iload_n 1, 1) := by decide +kernel
theorem dX6_relay_68 : decode cX6_relay 68 = .ok (.invokevirtual 131, 3) := by decide +kernel
theorem dX6_relay_71 : decode cX6_relay 71 = .ok (.ifCond .eq 9, 3) := by decide +kernel
theorem dX6_relay_74 : decode cX6_relay 74 = .ok (.aload_n 0, 1) := by decide +kernel
theorem dX6_relay_75 : decode cX6_relay 75 = .ok (.iconst 2, 1) := by decide +kernel
theorem dX6_relay_76 : decode cX6_relay 76 = .ok (.invokevirtual 88, 3) := by decide +kernel
theorem dX6_relay_79 : decode cX6_relay 79 = .ok (.ireturn, 1) := by decide +kernel
theorem dX6_relay_80 : decode cX6_relay 80 = .ok (.aload_n 0, 1) := by decide +kernel
theorem dX6_relay_81 : decode cX6_relay 81 = .ok (.iload_n 1, 1) := by decide +kernel
theorem dX6_relay_82 : decode cX6_relay 82 = .ok (.bipush 7, 2) := by decide +kernel
theorem dX6_relay_84 : decode cX6_relay 84 = .ok (.iload_n 2, 1) := by decide +kernel
theorem dX6_relay_85 : decode cX6_relay 85 = .ok (.invokevirtual 119, 3) := by decide +kernel
theorem dX6_relay_88 : decode cX6_relay 88 = .ok (.iload_n 3, 1) := by decide +kernel
theorem dX6_relay_89 : decode cX6_relay 89 = .ok (.ireturn, 1) := by decide +kernel
theorem dX6_aim_0 : decode cX6_aim 0 = .ok (.aload_n 0, 1) := by decide +kernel
theorem dX6_aim_1 : decode cX6_aim 1 = .ok (.iconst 0, 1) := by decide +kernel
theorem dX6_aim_2 : decode cX6_aim 2 = .ok (.putfield 38, 3) := by decide +kernel
theorem dX6_aim_5 : decode cX6_aim 5 = .ok (.aload_n 0, 1) := by decide +kernel
theorem dX6_aim_6 : decode cX6_aim 6 = .ok (.iload_n 1, 1) := by decide +kernel
theorem dX6_aim_7 : decode cX6_aim 7 = .ok (.invokevirtual 116, 3) := by decide +kernel
theorem dX6_aim_10 : decode cX6_aim 10 = .ok (.ifCond .eq 11, 3) := by decide +kernel
theorem dX6_aim_13 : decode cX6_aim 13 = .ok (.aload_n 0, 1) := by decide +kernel
theorem dX6_aim_14 : decode cX6_aim 14 = .ok (.iload_n 2, 1) := by decide +kernel
theorem dX6_aim_15 : decode cX6_aim 15 = .ok (.invokevirtual 100, 3) := by decide +kernel
theorem dX6_aim_18 : decode cX6_aim 18 = .ok (.ifCond .ne 9, 3) := by decide +kernel
theorem dX6_aim_21 : decode cX6_aim 21 = .ok (.aload_n 0, 1) := by decide +kernel
theorem dX6_aim_22 : decode cX6_aim 22 = .ok (.iconst 1, 1) := by decide +kernel
theorem dX6_aim_23 : decode cX6_aim 23 = .ok (.invokevirtual 88, 3) := by decide +kernel
theorem dX6_aim_26 : decode cX6_aim 26 = .ok (.ireturn, 1) := by decide +kernel
theorem dX6_aim_27 : decode cX6_aim 27 = .ok (.aload_n 0, 1) := by decide +kernel
theorem dX6_aim_28 : decode cX6_aim 28 = .ok (.iload_n 1, 1) := by decide +kernel
theorem dX6_aim_29 : decode cX6_aim 29 = .ok (.iconst 0, 1) := by decide +kernel
theorem dX6_aim_30 : decode cX6_aim 30 = .ok (.invokevirtual 81, 3) := by decide +kernel
theorem dX6_aim_33 : decode cX6_aim 33 = .ok (.aload_n 0, 1) := by decide +kernel
theorem dX6_aim_34 : decode cX6_aim 34 = .ok (.iload_n 2, 1) := by decide +kernel
theorem dX6_aim_35 : decode cX6_aim 35 = .ok (.iconst 0, 1) := by decide +kernel
theorem dX6_aim_36 : decode cX6_aim 36 = .ok (.invokevirtual 65, 3) := by decide +kernel
theorem dX6_aim_39 : decode cX6_aim 39 = .ok (.invokestatic 125, 3) := by decide +kernel
theorem dX6_aim_42 : decode cX6_aim 42 = .ok (.istore_n 3, 1) := by decide +kernel
theorem dX6_aim_43 : decode cX6_aim 43 = .ok (.aload_n 0, 1) := by decide +kernel
theorem dX6_aim_44 : decode cX6_aim 44 = .ok (.iload_n 1, 1) := by decide +kernel
theorem dX6_aim_45 : decode cX6_aim 45 = .ok (.invokevirtual 128, 3) := by decide +kernel
theorem dX6_aim_48 : decode cX6_aim 48 = .ok (.ifCond .eq 9, 3) := by decide +kernel
theorem dX6_aim_51 : decode cX6_aim 51 = .ok (.iload_n 3, 1) := by decide +kernel
theorem dX6_aim_52 : decode cX6_aim 52 = .ok (.bipush 6, 2) := by decide +kernel
theorem dX6_aim_54 : decode cX6_aim 54 = .ok (.if_icmp .le 9, 3) := by decide +kernel
theorem dX6_aim_57 : decode cX6_aim 57 = .ok (.aload_n 0, 1) := by decide +kernel
theorem dX6_aim_58 : decode cX6_aim 58 = .ok (.iconst 2, 1) := by decide +kernel
theorem dX6_aim_59 : decode cX6_aim 59 = .ok (.invokevirtual 88, 3) := by decide +kernel
theorem dX6_aim_62 : decode cX6_aim 62 = .ok (.ireturn, 1) := by decide +kernel
theorem dX6_aim_63 : decode cX6_aim 63 = .ok (.aload_n 0, 1) := by decide +kernel
theorem dX6_aim_64 : decode cX6_aim 64 = .ok (.iload_n 1, 1) := by decide +kernel
theorem dX6_aim_65 : decode cX6_aim 65 = .ok (.bipush 7, 2) := by decide +kernel
theorem dX6_aim_67 : decode cX6_aim 67 = .ok (.bipush 100, 2) := by decide +kernel
theorem dX6_aim_69 : decode cX6_aim 69 = .ok (.iload_n 2, 1) := by decide +kernel
theorem dX6_aim_70 : decode cX6_aim 70 = .ok (.iadd, 1) := by decide +kernel
theorem dX6_aim_71 : decode cX6_aim 71 = .ok (.invokevirtual 119, 3) := by decide +kernel
theorem dX6_aim_74 : decode cX6_aim 74 = .ok (.iload_n 3, 1) := by decide +kernel
theorem dX6_aim_75 : decode cX6_aim 75 = .ok (.ireturn, 1) := by decide +kernel
theorem dX6_takeUp_0 : decode cX6_takeUp 0 = .ok (.aload_n 0, 1) := by decide +kernel
theorem dX6_takeUp_1 : decode cX6_takeUp 1 = .ok (.aload_n 0, 1) := by decide +kernel
theorem dX6_takeUp_2 : decode cX6_takeUp 2 = .ok (.iload_n 1, 1) := by decide +kernel
theorem dX6_takeUp_3 : decode cX6_takeUp 3 = .ok (.invokevirtual 116, 3) := by decide +kernel
theorem dX6_takeUp_6 : decode cX6_takeUp 6 = .ok (.ifCond .eq 7, 3) := by decide +kernel
theorem dX6_takeUp_9 : decode cX6_takeUp 9 = .ok (.iconst 0, 1) := by decide +kernel
theorem dX6_takeUp_10 : decode cX6_takeUp 10 = .ok (.goto 4, 3) := by decide +kernel
theorem dX6_takeUp_13 : decode cX6_takeUp 13 = .ok (.iconst 1, 1) := by decide +kernel
theorem dX6_takeUp_14 : decode cX6_takeUp 14 = .ok (.putfield 38, 3) := by decide +kernel
theorem dX6_takeUp_17 : decode cX6_takeUp 17 = .ok (.aload_n 0, 1) := by decide +kernel
theorem dX6_takeUp_18 : decode cX6_takeUp 18 = .ok (.getfield 38, 3) := by decide +kernel
theorem dX6_takeUp_21 : decode cX6_takeUp 21 = .ok (.ifCond .eq 5, 3) := by decide +kernel
theorem dX6_takeUp_24 : decode cX6_takeUp 24 = .ok (.iconst 0, 1) := by decide +kernel
theorem dX6_takeUp_25 : decode cX6_takeUp 25 = .ok (.ireturn, 1) := by decide +kernel
theorem dX6_takeUp_26 : decode cX6_takeUp 26 = .ok (.aload_n 0, 1) := by decide +kernel
theorem dX6_takeUp_27 : decode cX6_takeUp 27 = .ok (.iload_n 1, 1) := by decide +kernel
theorem dX6_takeUp_28 : decode cX6_takeUp 28 = .ok (.bipush 7, 2) := by decide +kernel
theorem dX6_takeUp_30 : decode cX6_takeUp 30 = .ok (.invokevirtual 81, 3) := by decide +kernel
theorem dX6_takeUp_33 : decode cX6_takeUp 33 = .ok (.iconst (-1), 1) := by decide +kernel
theorem dX6_takeUp_34 : decode cX6_takeUp 34 = .ok (.if_icmp .eq 7, 3) := by decide +kernel
theorem dX6_takeUp_37 : decode cX6_takeUp 37 = .ok (.iconst 1, 1) := by decide +kernel
theorem dX6_takeUp_38 : decode cX6_takeUp 38 = .ok (.goto 4, 3) := by decide +kernel
theorem dX6_takeUp_41 : decode cX6_takeUp 41 = .ok (.iconst 0, 1) := by decide +kernel
theorem dX6_takeUp_42 : decode cX6_takeUp 42 = .ok (.istore_n 2, 1) := by decide +kernel
theorem dX6_takeUp_43 : decode cX6_takeUp 43 = .ok (.aload_n 0, 1) := by decide +kernel
theorem dX6_takeUp_44 : decode cX6_takeUp 44 = .ok (.iload_n 1, 1) := by decide +kernel
theorem dX6_takeUp_45 : decode cX6_takeUp 45 = .ok (.bipush 7, 2) := by decide +kernel
theorem dX6_takeUp_47 : decode cX6_takeUp 47 = .ok (.iconst (-1), 1) := by decide +kernel
theorem dX6_takeUp_48 : decode cX6_takeUp 48 = .ok (.invokevirtual 119, 3) := by decide +kernel
theorem dX6_takeUp_51 : decode cX6_takeUp 51 = .ok (.iload_n 2, 1) := by decide +kernel
theorem dX6_takeUp_52 : decode cX6_takeUp 52 = .ok (.ireturn, 1) := by decide +kernel
theorem dX6_source_0 : decode cX6_source 0 = .ok (.iconst 0, 1) := by decide +kernel
theorem dX6_source_1 : decode cX6_source 1 = .ok (.istore_n 2, 1) := by decide +kernel
theorem dX6_source_2 : decode cX6_source 2 = .ok (.iload_n 2, 1) := by decide +kernel
theorem dX6_source_3 : decode cX6_source 3 = .ok (.aload_n 0, 1) := by decide +kernel
theorem dX6_source_4 : decode cX6_source 4 = .ok (.getfield 68, 3) := by decide +kernel
theorem dX6_source_7 : decode cX6_source 7 = .ok (.if_icmp .ge 37, 3) := by decide +kernel
theorem dX6_source_10 : decode cX6_source 10 = .ok (.aload_n 0, 1) := by decide +kernel
theorem dX6_source_11 : decode cX6_source 11 = .ok (.iload_n 1, 1) := by decide +kernel
theorem dX6_source_12 : decode cX6_source 12 = .ok (.invokevirtual 128, 3) := by decide +kernel
theorem dX6_source_15 : decode cX6_source 15 = .ok (.ifCond .eq 23, 3) := by decide +kernel
theorem dX6_source_18 : decode cX6_source 18 = .ok (.aload_n 0, 1) := by decide +kernel
theorem dX6_source_19 : decode cX6_source 19 = .ok (.getfield 9, 3) := by decide +kernel
theorem dX6_source_22 : decode cX6_source 22 = .ok (.iload_n 2, 1) := by decide +kernel
theorem dX6_source_23 : decode cX6_source 23 = .ok (.iaload, 1) := by decide +kernel
theorem dX6_source_24 : decode cX6_source 24 = .ok (.aload_n 0, 1) := by decide +kernel
theorem dX6_source_25 : decode cX6_source 25 = .ok (.iload_n 1, 1) := by decide +kernel
theorem dX6_source_26 : decode cX6_source 26 = .ok (.iconst 0, 1) := by decide +kernel
theorem dX6_source_27 : decode cX6_source 27 = .ok (.invokevirtual 81, 3) := by decide +kernel
theorem dX6_source_30 : decode cX6_source 30 = .ok (.invokestatic 110, 3) := by decide +kernel
theorem dX6_source_33 : decode cX6_source 33 = .ok (.ifCond .eq 5, 3) := by decide +kernel
theorem dX6_source_36 : decode cX6_source 36 = .ok (.iload_n 2, 1) := by decide +kernel
theorem dX6_source_37 : decode cX6_source 37 = .ok (.ireturn, 1) := by decide +kernel
theorem dX6_source_38 : decode cX6_source 38 = .ok (.iinc 2 1, 3) := by decide +kernel
theorem dX6_source_41 : decode cX6_source 41 = .ok (.goto (-39), 3) := by decide +kernel
theorem dX6_source_44 : decode cX6_source 44 = .ok (.iconst (-1), 1) := by decide +kernel
theorem dX6_source_45 : decode cX6_source 45 = .ok (.ireturn, 1) := by decide +kernel
theorem dX6_canPump_0 : decode cX6_canPump 0 = .ok (.aload_n 0, 1) := by decide +kernel
theorem dX6_canPump_1 : decode cX6_canPump 1 = .ok (.iload_n 1, 1) := by decide +kernel
theorem dX6_canPump_2 : decode cX6_canPump 2 = .ok (.invokevirtual 128, 3) := by decide +kernel
theorem dX6_canPump_5 : decode cX6_canPump 5 = .ok (.ifCond .eq 33, 3) := by decide +kernel
theorem dX6_canPump_8 : decode cX6_canPump 8 = .ok (.aload_n 0, 1) := by decide +kernel
theorem dX6_canPump_9 : decode cX6_canPump 9 = .ok (.iload_n 1, 1) := by decide +kernel
theorem dX6_canPump_10 : decode cX6_canPump 10 = .ok (.iconst 4, 1) := by decide +kernel
theorem dX6_canPump_11 : decode cX6_canPump 11 = .ok (.invokevirtual 81, 3) := by decide +kernel
theorem dX6_canPump_14 : decode cX6_canPump 14 = .ok (.bipush 20, 2) := by decide +kernel
theorem dX6_canPump_16 : decode cX6_canPump 16 = .ok (.if_icmp .lt 22, 3) := by decide +kernel
theorem dX6_canPump_19 : decode cX6_canPump 19 = .ok (.aload_n 0, 1) := by decide +kernel
theorem dX6_canPump_20 : decode cX6_canPump 20 = .ok (.iload_n 1, 1) := by decide +kernel
theorem dX6_canPump_21 : decode cX6_canPump 21 = .ok (.iconst 2, 1) := by decide +kernel
theorem dX6_canPump_22 : decode cX6_canPump 22 = .ok (.invokevirtual 81, 3) := by decide +kernel
theorem dX6_canPump_25 : decode cX6_canPump 25 = .ok (.aload_n 0, 1) := by decide +kernel
theorem dX6_canPump_26 : decode cX6_canPump 26 = .ok (.iload_n 1, 1) := by decide +kernel
theorem dX6_canPump_27 : decode cX6_canPump 27 = .ok (.iconst 4, 1) := by decide +kernel
theorem dX6_canPump_28 : decode cX6_canPump 28 = .ok (.invokevirtual 81, 3) := by decide +kernel
theorem dX6_canPump_31 : decode cX6_canPump 31 = .ok (.imul, 1) := by decide +kernel
theorem dX6_canPump_32 : decode cX6_canPump 32 = .ok (.bipush 20, 2) := by decide +kernel
theorem dX6_canPump_34 : decode cX6_canPump 34 = .ok (.idiv, 1) := by decide +kernel
theorem dX6_canPump_35 : decode cX6_canPump 35 = .ok (.goto 4, 3) := by decide +kernel
theorem dX6_canPump_38 : decode cX6_canPump 38 = .ok (.iconst 0, 1) := by decide +kernel
theorem dX6_canPump_39 : decode cX6_canPump 39 = .ok (.ireturn, 1) := by decide +kernel
theorem dX6_engineTold_0 : decode cX6_engineTold 0 = .ok (.iload_n 2, 1) := by decide +kernel
theorem dX6_engineTold_1 : decode cX6_engineTold 1 = .ok (.tableswitch 59 6 9 #[31, 39, 45, 53], 31) := by decide +kernel
theorem dX6_engineTold_32 : decode cX6_engineTold 32 = .ok (.aload_n 0, 1) := by decide +kernel
theorem dX6_engineTold_33 : decode cX6_engineTold 33 = .ok (.iload_n 1, 1) := by decide +kernel
theorem dX6_engineTold_34 : decode cX6_engineTold 34 = .ok (.bipush 7, 2) := by decide +kernel
theorem dX6_engineTold_36 : decode cX6_engineTold 36 = .ok (.invokevirtual 81, 3) := by decide +kernel
theorem dX6_engineTold_39 : decode cX6_engineTold 39 = .ok (.ireturn, 1) := by decide +kernel
theorem dX6_engineTold_40 : decode cX6_engineTold 40 = .ok (.aload_n 0, 1) := by decide +kernel
theorem dX6_engineTold_41 : decode cX6_engineTold 41 = .ok (.iload_n 1, 1) := by decide +kernel
theorem dX6_engineTold_42 : decode cX6_engineTold 42 = .ok (.invokevirtual 134, 3) := by decide +kernel
theorem dX6_engineTold_45 : decode cX6_engineTold 45 = .ok (.ireturn, 1) := by decide +kernel
theorem dX6_engineTold_46 : decode cX6_engineTold 46 = .ok (.aload_n 0, 1) := by decide +kernel
theorem dX6_engineTold_47 : decode cX6_engineTold 47 = .ok (.iload_n 1, 1) := by decide +kernel
theorem dX6_engineTold_48 : decode cX6_engineTold 48 = .ok (.bipush 8, 2) := by decide +kernel
theorem dX6_engineTold_50 : decode cX6_engineTold 50 = .ok (.invokevirtual 81, 3) := by decide +kernel
theorem dX6_engineTold_53 : decode cX6_engineTold 53 = .ok (.ireturn, 1) := by decide +kernel
theorem dX6_engineTold_54 : decode cX6_engineTold 54 = .ok (.aload_n 0, 1) := by decide +kernel
theorem dX6_engineTold_55 : decode cX6_engineTold 55 = .ok (.iload_n 1, 1) := by decide +kernel
theorem dX6_engineTold_56 : decode cX6_engineTold 56 = .ok (.invokevirtual 137, 3) := by decide +kernel
theorem dX6_engineTold_59 : decode cX6_engineTold 59 = .ok (.ireturn, 1) := by decide +kernel
theorem dX6_engineTold_60 : decode cX6_engineTold 60 = .ok (.aload_n 0, 1) := by decide +kernel
theorem dX6_engineTold_61 : decode cX6_engineTold 61 = .ok (.iload_n 1, 1) := by decide +kernel
theorem dX6_engineTold_62 : decode cX6_engineTold 62 = .ok (.iload_n 2, 1) := by decide +kernel
theorem dX6_engineTold_63 : decode cX6_engineTold 63 = .ok (.invokevirtual 81, 3) := by decide +kernel
theorem dX6_engineTold_66 : decode cX6_engineTold 66 = .ok (.ireturn, 1) := by decide +kernel
theorem dX6_engine_0 : decode cX6_engine 0 = .ok (.aload_n 0, 1) := by decide +kernel
theorem dX6_engine_1 : decode cX6_engine 1 = .ok (.iconst 0, 1) := by decide +kernel
theorem dX6_engine_2 : decode cX6_engine 2 = .ok (.putfield 38, 3) := by decide +kernel
theorem dX6_engine_5 : decode cX6_engine 5 = .ok (.aload_n 0, 1) := by decide +kernel
theorem dX6_engine_6 : decode cX6_engine 6 = .ok (.iload_n 1, 1) := by decide +kernel
theorem dX6_engine_7 : decode cX6_engine 7 = .ok (.invokevirtual 116, 3) := by decide +kernel
theorem dX6_engine_10 : decode cX6_engine 10 = .ok (.ifCond .eq 22, 3) := by decide +kernel
theorem dX6_engine_13 : decode cX6_engine 13 = .ok (.iload_n 2, 1) := by decide +kernel
theorem dX6_engine_14 : decode cX6_engine 14 = .ok (.iconst 0, 1) := by decide +kernel
theorem dX6_engine_15 : decode cX6_engine 15 = .ok (.bipush 9, 2) := by decide +kernel
theorem dX6_engine_17 : decode cX6_engine 17 = .ok (.invokestatic 42, 3) := by decide +kernel
theorem dX6_engine_20 : decode cX6_engine 20 = .ok (.ifCond .eq 12, 3) := by decide +kernel
theorem dX6_engine_23 : decode cX6_engine 23 = .ok (.aload_n 0, 1) := by decide +kernel
theorem dX6_engine_24 : decode cX6_engine 24 = .ok (.iload_n 1, 1) := by decide +kernel
theorem dX6_engine_25 : decode cX6_engine 25 = .ok (.iload_n 2, 1) := by decide +kernel
theorem dX6_engine_26 : decode cX6_engine 26 = .ok (.invokevirtual 140, 3) := by decide +kernel
theorem dX6_engine_29 : decode cX6_engine 29 = .ok (.goto 8, 3) := by decide +kernel
theorem dX6_engine_32 : decode cX6_engine 32 = .ok (.aload_n 0, 1) := by decide +kernel
theorem dX6_engine_33 : decode cX6_engine 33 = .ok (.iconst 1, 1) := by decide +kernel
theorem dX6_engine_34 : decode cX6_engine 34 = .ok (.invokevirtual 88, 3) := by decide +kernel
theorem dX6_engine_37 : decode cX6_engine 37 = .ok (.ireturn, 1) := by decide +kernel
theorem dX6_pond_0 : decode cX6_pond 0 = .ok (.aload_n 0, 1) := by decide +kernel
theorem dX6_pond_1 : decode cX6_pond 1 = .ok (.iconst 0, 1) := by decide +kernel
theorem dX6_pond_2 : decode cX6_pond 2 = .ok (.putfield 38, 3) := by decide +kernel
theorem dX6_pond_5 : decode cX6_pond 5 = .ok (.iload_n 1, 1) := by decide +kernel
theorem dX6_pond_6 : decode cX6_pond 6 = .ok (.iconst 0, 1) := by decide +kernel
theorem dX6_pond_7 : decode cX6_pond 7 = .ok (.aload_n 0, 1) := by decide +kernel
theorem dX6_pond_8 : decode cX6_pond 8 = .ok (.getfield 68, 3) := by decide +kernel
theorem dX6_pond_11 : decode cX6_pond 11 = .ok (.iconst 1, 1) := by decide +kernel
theorem dX6_pond_12 : decode cX6_pond 12 = .ok (.isub, 1) := by decide +kernel
theorem dX6_pond_13 : decode cX6_pond 13 = .ok (.invokestatic 42, 3) := by decide +kernel
theorem dX6_pond_16 : decode cX6_pond 16 = .ok (.ifCond .eq 12, 3) := by decide +kernel
theorem dX6_pond_19 : decode cX6_pond 19 = .ok (.aload_n 0, 1) := by decide +kernel
theorem dX6_pond_20 : decode cX6_pond 20 = .ok (.getfield 13, 3) := by decide +kernel
theorem dX6_pond_23 : decode cX6_pond 23 = .ok (.iload_n 1, 1) := by decide +kernel
theorem dX6_pond_24 : decode cX6_pond 24 = .ok (.iaload, 1) := by decide +kernel
theorem dX6_pond_25 : decode cX6_pond 25 = .ok (.goto 8, 3) := by decide +kernel
theorem dX6_pond_28 : decode cX6_pond 28 = .ok (.aload_n 0, 1) := by decide +kernel
theorem dX6_pond_29 : decode cX6_pond 29 = .ok (.iconst 1, 1) := by decide +kernel
theorem dX6_pond_30 : decode cX6_pond 30 = .ok (.invokevirtual 88, 3) := by decide +kernel
theorem dX6_pond_33 : decode cX6_pond 33 = .ok (.ireturn, 1) := by decide +kernel
theorem dX6_next_0 : decode cX6_next 0 = .ok (.iconst 0, 1) := by decide +kernel
theorem dX6_next_1 : decode cX6_next 1 = .ok (.istore_n 1, 1) := by decide +kernel
theorem dX6_next_2 : decode cX6_next 2 = .ok (.iload_n 1, 1) := by decide +kernel
theorem dX6_next_3 : decode cX6_next 3 = .ok (.aload_n 0, 1) := by decide +kernel
theorem dX6_next_4 : decode cX6_next 4 = .ok (.getfield 62, 3) := by decide +kernel
theorem dX6_next_7 : decode cX6_next 7 = .ok (.if_icmp .ge 76, 3) := by decide +kernel
theorem dX6_next_10 : decode cX6_next 10 = .ok (.aload_n 0, 1) := by decide +kernel
theorem dX6_next_11 : decode cX6_next 11 = .ok (.getfield 28, 3) := by decide +kernel
theorem dX6_next_14 : decode cX6_next 14 = .ok (.iload_n 1, 1) := by decide +kernel
theorem dX6_next_15 : decode cX6_next 15 = .ok (.baload, 1) := by decide +kernel
theorem dX6_next_16 : decode cX6_next 16 = .ok (.ifCond .ne 7, 3) := by decide +kernel
theorem dX6_next_19 : decode cX6_next 19 = .ok (.iconst 1, 1) := by decide +kernel
theorem dX6_next_20 : decode cX6_next 20 = .ok (.goto 4, 3) := by decide +kernel
theorem dX6_next_23 : decode cX6_next 23 = .ok (.iconst 0, 1) := by decide +kernel
theorem dX6_next_24 : decode cX6_next 24 = .ok (.istore_n 2, 1) := by decide +kernel
theorem dX6_next_25 : decode cX6_next 25 = .ok (.iconst 0, 1) := by decide +kernel
theorem dX6_next_26 : decode cX6_next 26 = .ok (.istore_n 3, 1) := by decide +kernel
theorem dX6_next_27 : decode cX6_next 27 = .ok (.iload_n 3, 1) := by decide +kernel
theorem dX6_next_28 : decode cX6_next 28 = .ok (.aload_n 0, 1) := by decide +kernel
theorem dX6_next_29 : decode cX6_next 29 = .ok (.getfield 62, 3) := by decide +kernel
theorem dX6_next_32 : decode cX6_next 32 = .ok (.if_icmp .ge 39, 3) := by decide +kernel
theorem dX6_next_35 : decode cX6_next 35 = .ok (.iload_n 2, 1) := by decide +kernel
theorem dX6_next_36 : decode cX6_next 36 = .ok (.ifCond .eq 27, 3) := by decide +kernel
theorem dX6_next_39 : decode cX6_next 39 = .ok (.aload_n 0, 1) := by decide +kernel
theorem dX6_next_40 : decode cX6_next 40 = .ok (.getfield 28, 3) := by decide +kernel
theorem dX6_next_43 : decode cX6_next 43 = .ok (.iload_n 3, 1) := by decide +kernel
theorem dX6_next_44 : decode cX6_next 44 = .ok (.baload, 1) := by decide +kernel
theorem dX6_next_45 : decode cX6_next 45 = .ok (.ifCond .ne 14, 3) := by decide +kernel
theorem dX6_next_48 : decode cX6_next 48 = .ok (.aload_n 0, 1) := by decide +kernel
theorem dX6_next_49 : decode cX6_next 49 = .ok (.iload_n 3, 1) := by decide +kernel
theorem dX6_next_50 : decode cX6_next 50 = .ok (.bipush 7, 2) := by decide +kernel
theorem dX6_next_52 : decode cX6_next 52 = .ok (.invokevirtual 81, 3) := by decide +kernel
theorem dX6_next_55 : decode cX6_next 55 = .ok (.iload_n 1, 1) := by decide +kernel
theorem dX6_next_56 : decode cX6_next 56 = .ok (.if_icmp .eq 7, 3) := by decide +kernel
theorem dX6_next_59 : decode cX6_next 59 = .ok (.iconst 1, 1) := by decide +kernel
theorem dX6_next_60 : decode cX6_next 60 = .ok (.goto 4, 3) := by decide +kernel
theorem dX6_next_63 : decode cX6_next 63 = .ok (.iconst 0, 1) := by decide +kernel
theorem dX6_next_64 : decode cX6_next 64 = .ok (.istore_n 2, 1) := by decide +kernel
theorem dX6_next_65 : decode cX6_next 65 = .ok (.iinc 3 1, 3) := by decide +kernel
theorem dX6_next_68 : decode cX6_next 68 = .ok (.goto (-41), 3) := by decide +kernel
theorem dX6_next_71 : decode cX6_next 71 = .ok (.iload_n 2, 1) := by decide +kernel
theorem dX6_next_72 : decode cX6_next 72 = .ok (.ifCond .eq 5, 3) := by decide +kernel
theorem dX6_next_75 : decode cX6_next 75 = .ok (.iload_n 1, 1) := by decide +kernel
theorem dX6_next_76 : decode cX6_next 76 = .ok (.ireturn, 1) := by decide +kernel
theorem dX6_next_77 : decode cX6_next 77 = .ok (.iinc 1 1, 3) := by decide +kernel
theorem dX6_next_80 : decode cX6_next 80 = .ok (.goto (-78), 3) := by decide +kernel
theorem dX6_next_83 : decode cX6_next 83 = .ok (.iconst (-1), 1) := by decide +kernel
theorem dX6_next_84 : decode cX6_next 84 = .ok (.ireturn, 1) := by decide +kernel
theorem dX6_pump_0 : decode cX6_pump 0 = .ok (.aload_n 0, 1) := by decide +kernel
theorem dX6_pump_1 : decode cX6_pump 1 = .ok (.iload_n 1, 1) := by decide +kernel
theorem dX6_pump_2 : decode cX6_pump 2 = .ok (.bipush 7, 2) := by decide +kernel
theorem dX6_pump_4 : decode cX6_pump 4 = .ok (.invokevirtual 81, 3) := by decide +kernel
theorem dX6_pump_7 : decode cX6_pump 7 = .ok (.istore_n 2, 1) := by decide +kernel
theorem dX6_pump_8 : decode cX6_pump 8 = .ok (.aload_n 0, 1) := by decide +kernel
theorem dX6_pump_9 : decode cX6_pump 9 = .ok (.iload_n 1, 1) := by decide +kernel
theorem dX6_pump_10 : decode cX6_pump 10 = .ok (.bipush 8, 2) := by decide +kernel
theorem dX6_pump_12 : decode cX6_pump 12 = .ok (.iconst 0, 1) := by decide +kernel
theorem dX6_pump_13 : decode cX6_pump 13 = .ok (.invokevirtual 119, 3) := by decide +kernel
theorem dX6_pump_16 : decode cX6_pump 16 = .ok (.iload_n 2, 1) := by decide +kernel
theorem dX6_pump_17 : decode cX6_pump 17 = .ok (.iconst (-1), 1) := by decide +kernel
theorem dX6_pump_18 : decode cX6_pump 18 = .ok (.if_icmp .ne 4, 3) := by decide +kernel
theorem dX6_pump_21 : decode cX6_pump 21 = .ok (.return_, 1) := by decide +kernel
theorem dX6_pump_22 : decode cX6_pump 22 = .ok (.aload_n 0, 1) := by decide +kernel
theorem dX6_pump_23 : decode cX6_pump 23 = .ok (.iload_n 1, 1) := by decide +kernel
theorem dX6_pump_24 : decode cX6_pump 24 = .ok (.invokevirtual 137, 3) := by decide +kernel
theorem dX6_pump_27 : decode cX6_pump 27 = .ok (.istore_n 3, 1) := by decide +kernel
theorem dX6_pump_28 : decode cX6_pump 28 = .ok (.aload_n 0, 1) := by decide +kernel
theorem dX6_pump_29 : decode cX6_pump 29 = .ok (.iload_n 1, 1) := by decide +kernel
theorem dX6_pump_30 : decode cX6_pump 30 = .ok (.invokevirtual 134, 3) := by decide +kernel
theorem dX6_pump_33 : decode cX6_pump 33 = .ok (.istore 4, 2) := by decide +kernel
theorem dX6_pump_35 : decode cX6_pump 35 = .ok (.iload 4, 2) := by decide +kernel
theorem dX6_pump_37 : decode cX6_pump 37 = .ok (.iconst (-1), 1) := by decide +kernel
theorem dX6_pump_38 : decode cX6_pump 38 = .ok (.if_icmp .ne 7, 3) := by decide +kernel
theorem dX6_pump_41 : decode cX6_pump 41 = .ok (.iconst 0, 1) := by decide +kernel
theorem dX6_pump_42 : decode cX6_pump 42 = .ok (.goto 25, 3) := by decide +kernel
theorem dX6_pump_45 : decode cX6_pump 45 = .ok (.aload_n 0, 1) := by decide +kernel
theorem dX6_pump_46 : decode cX6_pump 46 = .ok (.getfield 13, 3) := by decide +kernel
theorem dX6_pump_49 : decode cX6_pump 49 = .ok (.iload 4, 2) := by decide +kernel
theorem dX6_pump_51 : decode cX6_pump 51 = .ok (.iaload, 1) := by decide +kernel
theorem dX6_pump_52 : decode cX6_pump 52 = .ok (.iconst 0, 1) := by decide +kernel
theorem dX6_pump_53 : decode cX6_pump 53 = .ok (.iload_n 3, 1) := by decide +kernel
theorem dX6_pump_54 : decode cX6_pump 54 = .ok (.aload_n 0, 1) := by decide +kernel
theorem dX6_pump_55 : decode cX6_pump 55 = .ok (.getfield 25, 3) := by decide +kernel
theorem dX6_pump_58 : decode cX6_pump 58 = .ok (.iload_n 1, 1) := by decide +kernel
theorem dX6_pump_59 : decode cX6_pump 59 = .ok (.iaload, 1) := by decide +kernel
theorem dX6_pump_60 : decode cX6_pump 60 = .ok (.isub, 1) := by decide +kernel
theorem dX6_pump_61 : decode cX6_pump 61 = .ok (.invokestatic 143, 3) := by decide +kernel
theorem dX6_pump_64 : decode cX6_pump 64 = .ok (.invokestatic 146, 3) := by decide +kernel
theorem dX6_pump_67 : decode cX6_pump 67 = .ok (.istore 5, 2) := by decide +kernel
theorem dX6_pump_69 : decode cX6_pump 69 = .ok (.iload 4, 2) := by decide +kernel
theorem dX6_pump_71 : decode cX6_pump 71 = .ok (.iconst (-1), 1) := by decide +kernel
theorem dX6_pump_72 : decode cX6_pump 72 = .ok (.if_icmp .eq 15, 3) := by decide +kernel
theorem dX6_pump_75 : decode cX6_pump 75 = .ok (.aload_n 0, 1) := by decide +kernel
theorem dX6_pump_76 : decode cX6_pump 76 = .ok (.getfield 13, 3) := by decide +kernel
theorem dX6_pump_79 : decode cX6_pump 79 = .ok (.iload 4, 2) := by decide +kernel
theorem dX6_pump_81 : decode cX6_pump 81 = .ok (.dup2, 1) := by decide +kernel
theorem dX6_pump_82 : decode cX6_pump 82 = .ok (.iaload, 1) := by decide +kernel
theorem dX6_pump_83 : decode cX6_pump 83 = .ok (.iload 5, 2) := by decide +kernel
theorem dX6_pump_85 : decode cX6_pump 85 = .ok (.isub, 1) := by decide +kernel
theorem dX6_pump_86 : decode cX6_pump 86 = .ok (.iastore, 1) := by decide +kernel
theorem dX6_pump_87 : decode cX6_pump 87 = .ok (.iload_n 3, 1) := by decide +kernel
theorem dX6_pump_88 : decode cX6_pump 88 = .ok (.aload_n 0, 1) := by decide +kernel
theorem dX6_pump_89 : decode cX6_pump 89 = .ok (.getfield 25, 3) := by decide +kernel
theorem dX6_pump_92 : decode cX6_pump 92 = .ok (.iload_n 1, 1) := by decide +kernel
theorem dX6_pump_93 : decode cX6_pump 93 = .ok (.iaload, 1) := by decide +kernel
theorem dX6_pump_94 : decode cX6_pump 94 = .ok (.iload 5, 2) := by decide +kernel
theorem dX6_pump_96 : decode cX6_pump 96 = .ok (.iadd, 1) := by decide +kernel
theorem dX6_pump_97 : decode cX6_pump 97 = .ok (.invokestatic 146, 3) := by decide +kernel
theorem dX6_pump_100 : decode cX6_pump 100 = .ok (.istore 6, 2) := by decide +kernel
theorem dX6_pump_102 : decode cX6_pump 102 = .ok (.iload_n 2, 1) := by decide +kernel
theorem dX6_pump_103 : decode cX6_pump 103 = .ok (.bipush 100, 2) := by decide +kernel
theorem dX6_pump_105 : decode cX6_pump 105 = .ok (.if_icmp .lt 7, 3) := by decide +kernel
theorem dX6_pump_108 : decode cX6_pump 108 = .ok (.iconst 1, 1) := by decide +kernel
theorem dX6_pump_109 : decode cX6_pump 109 = .ok (.goto 4, 3) := by decide +kernel
theorem dX6_pump_112 : decode cX6_pump 112 = .ok (.iconst 0, 1) := by decide +kernel
theorem dX6_pump_113 : decode cX6_pump 113 = .ok (.istore 7, 2) := by decide +kernel
theorem dX6_pump_115 : decode cX6_pump 115 = .ok (.aload_n 0, 1) := by decide +kernel
theorem dX6_pump_116 : decode cX6_pump 116 = .ok (.iload_n 1, 1) := by decide +kernel
theorem dX6_pump_117 : decode cX6_pump 117 = .ok (.iconst 0, 1) := by decide +kernel
theorem dX6_pump_118 : decode cX6_pump 118 = .ok (.invokevirtual 81, 3) := by decide +kernel
theorem dX6_pump_121 : decode cX6_pump 121 = .ok (.iload 7, 2) := by decide +kernel
theorem dX6_pump_123 : decode cX6_pump 123 = .ok (.ifCond .eq 15, 3) := by decide +kernel
theorem dX6_pump_126 : decode cX6_pump 126 = .ok (.aload_n 0, 1) := by decide +kernel
theorem dX6_pump_127 : decode cX6_pump 127 = .ok (.iload_n 2, 1) := by decide +kernel
theorem dX6_pump_128 : decode cX6_pump 128 = .ok (.bipush 100, 2) := by decide +kernel
theorem dX6_pump_130 : decode cX6_pump 130 = .ok (.isub, 1) := by decide +kernel
theorem dX6_pump_131 : decode cX6_pump 131 = .ok (.iconst 0, 1) := by decide +kernel
theorem dX6_pump_132 : decode cX6_pump 132 = .ok (.invokevirtual 65, 3) := by decide +kernel
theorem dX6_pump_135 : decode cX6_pump 135 = .ok (.goto 9, 3) := by decide +kernel
theorem dX6_pump_138 : decode cX6_pump 138 = .ok (.aload_n 0, 1) := by decide +kernel
theorem dX6_pump_139 : decode cX6_pump 139 = .ok (.iload_n 2, 1) := by decide +kernel
theorem dX6_pump_140 : decode cX6_pump 140 = .ok (.iconst 0, 1) := by decide +kernel
theorem dX6_pump_141 : decode cX6_pump 141 = .ok (.invokevirtual 81, 3) := by decide +kernel
theorem dX6_pump_144 : decode cX6_pump 144 = .ok (.invokestatic 125, 3) := by decide +kernel
theorem dX6_pump_147 : decode cX6_pump 147 = .ok (.istore 8, 2) := by decide +kernel
theorem dX6_pump_149 : decode cX6_pump 149 = .ok (.iload 6, 2) := by decide +kernel
theorem dX6_pump_151 : decode cX6_pump 151 = .ok (.iload 6, 2) := by decide +kernel
theorem dX6_pump_153 : decode cX6_pump 153 = .ok (.iload 8, 2) := by decide +kernel
theorem dX6_pump_155 : decode cX6_pump 155 = .ok (.iconst 2, 1) := by decide +kernel
theorem dX6_pump_156 : decode cX6_pump 156 = .ok (.idiv, 1) := by decide +kernel
theorem dX6_pump_157 : decode cX6_pump 157 = .ok (.imul, 1) := by decide +kernel
theorem dX6_pump_158 : decode cX6_pump 158 = .ok (.bipush 10, 2) := by decide +kernel
theorem dX6_pump_160 : decode cX6_pump 160 = .ok (.idiv, 1) := by decide +kernel
theorem dX6_pump_161 : decode cX6_pump 161 = .ok (.isub, 1) := by decide +kernel
theorem dX6_pump_162 : decode cX6_pump 162 = .ok (.istore 9, 2) := by decide +kernel
theorem dX6_pump_164 : decode cX6_pump 164 = .ok (.aload_n 0, 1) := by decide +kernel
theorem dX6_pump_165 : decode cX6_pump 165 = .ok (.iload_n 1, 1) := by decide +kernel
theorem dX6_pump_166 : decode cX6_pump 166 = .ok (.bipush 8, 2) := by decide +kernel
theorem dX6_pump_168 : decode cX6_pump 168 = .ok (.iload 6, 2) := by decide +kernel
theorem dX6_pump_170 : decode cX6_pump 170 = .ok (.invokevirtual 119, 3) := by decide +kernel
theorem dX6_pump_173 : decode cX6_pump 173 = .ok (.iload 7, 2) := by decide +kernel
theorem dX6_pump_175 : decode cX6_pump 175 = .ok (.ifCond .eq 27, 3) := by decide +kernel
theorem dX6_pump_178 : decode cX6_pump 178 = .ok (.aload_n 0, 1) := by decide +kernel
theorem dX6_pump_179 : decode cX6_pump 179 = .ok (.iload_n 2, 1) := by decide +kernel
theorem dX6_pump_180 : decode cX6_pump 180 = .ok (.bipush 100, 2) := by decide +kernel
theorem dX6_pump_182 : decode cX6_pump 182 = .ok (.isub, 1) := by decide +kernel
theorem dX6_pump_183 : decode cX6_pump 183 = .ok (.iconst 5, 1) := by decide +kernel
theorem dX6_pump_184 : decode cX6_pump 184 = .ok (.aload_n 0, 1) := by decide +kernel
theorem dX6_pump_185 : decode cX6_pump 185 = .ok (.iload_n 2, 1) := by decide +kernel
theorem dX6_pump_186 : decode cX6_pump 186 = .ok (.bipush 100, 2) := by decide +kernel
theorem dX6_pump_188 : decode cX6_pump 188 = .ok (.isub, 1) := by decide +kernel
theorem dX6_pump_189 : decode cX6_pump 189 = .ok (.iconst 5, 1) := by decide +kernel
theorem dX6_pump_190 : decode cX6_pump 190 = .ok (.invokevirtual 65, 3) := by decide +kernel
theorem dX6_pump_193 : decode cX6_pump 193 = .ok (.iload 9, 2) := by decide +kernel
theorem dX6_pump_195 : decode cX6_pump 195 = .ok (.iadd, 1) := by decide +kernel
theorem dX6_pump_196 : decode cX6_pump 196 = .ok (.invokevirtual 103, 3) := by decide +kernel
theorem dX6_pump_199 : decode cX6_pump 199 = .ok (.goto 14, 3) := by decide +kernel
theorem dX6_pump_202 : decode cX6_pump 202 = .ok (.aload_n 0, 1) := by decide +kernel
theorem dX6_pump_203 : decode cX6_pump 203 = .ok (.getfield 25, 3) := by decide +kernel
theorem dX6_pump_206 : decode cX6_pump 206 = .ok (.iload_n 2, 1) := by decide +kernel
theorem dX6_pump_207 : decode cX6_pump 207 = .ok (.dup2, 1) := by decide +kernel
theorem dX6_pump_208 : decode cX6_pump 208 = .ok (.iaload, 1) := by decide +kernel
theorem dX6_pump_209 : decode cX6_pump 209 = .ok (.iload 9, 2) := by decide +kernel
theorem dX6_pump_211 : decode cX6_pump 211 = .ok (.iadd, 1) := by decide +kernel
theorem dX6_pump_212 : decode cX6_pump 212 = .ok (.iastore, 1) := by decide +kernel
theorem dX6_pump_213 : decode cX6_pump 213 = .ok (.return_, 1) := by decide +kernel
theorem dX6_pumpAll_0 : decode cX6_pumpAll 0 = .ok (.iconst 0, 1) := by decide +kernel
theorem dX6_pumpAll_1 : decode cX6_pumpAll 1 = .ok (.istore_n 1, 1) := by decide +kernel
theorem dX6_pumpAll_2 : decode cX6_pumpAll 2 = .ok (.iload_n 1, 1) := by decide +kernel
theorem dX6_pumpAll_3 : decode cX6_pumpAll 3 = .ok (.aload_n 0, 1) := by decide +kernel
theorem dX6_pumpAll_4 : decode cX6_pumpAll 4 = .ok (.getfield 59, 3) := by decide +kernel
theorem dX6_pumpAll_7 : decode cX6_pumpAll 7 = .ok (.if_icmp .ge 16, 3) := by decide +kernel
theorem dX6_pumpAll_10 : decode cX6_pumpAll 10 = .ok (.aload_n 0, 1) := by decide +kernel
theorem dX6_pumpAll_11 : decode cX6_pumpAll 11 = .ok (.iload_n 1, 1) := by decide +kernel
theorem dX6_pumpAll_12 : decode cX6_pumpAll 12 = .ok (.iconst 5, 1) := by decide +kernel
theorem dX6_pumpAll_13 : decode cX6_pumpAll 13 = .ok (.iconst 0, 1) := by decide +kernel
theorem dX6_pumpAll_14 : decode cX6_pumpAll 14 = .ok (.invokevirtual 103, 3) := by decide +kernel
theorem dX6_pumpAll_17 : decode cX6_pumpAll 17 = .ok (.iinc 1 1, 3) := by decide +kernel
theorem dX6_pumpAll_20 : decode cX6_pumpAll 20 = .ok (.goto (-18), 3) := by decide +kernel
theorem dX6_pumpAll_23 : decode cX6_pumpAll 23 = .ok (.iconst 0, 1) := by decide +kernel
theorem dX6_pumpAll_24 : decode cX6_pumpAll 24 = .ok (.istore_n 1, 1) := by decide +kernel
theorem dX6_pumpAll_25 : decode cX6_pumpAll 25 = .ok (.iload_n 1, 1) := by decide +kernel
theorem dX6_pumpAll_26 : decode cX6_pumpAll 26 = .ok (.aload_n 0, 1) := by decide +kernel
theorem dX6_pumpAll_27 : decode cX6_pumpAll 27 = .ok (.getfield 62, 3) := by decide +kernel
theorem dX6_pumpAll_30 : decode cX6_pumpAll 30 = .ok (.if_icmp .ge 23, 3) := by decide +kernel
theorem dX6_pumpAll_33 : decode cX6_pumpAll 33 = .ok (.aload_n 0, 1) := by decide +kernel
theorem dX6_pumpAll_34 : decode cX6_pumpAll 34 = .ok (.getfield 25, 3) := by decide +kernel
theorem dX6_pumpAll_37 : decode cX6_pumpAll 37 = .ok (.iload_n 1, 1) := by decide +kernel
theorem dX6_pumpAll_38 : decode cX6_pumpAll 38 = .ok (.iconst 0, 1) := by decide +kernel
theorem dX6_pumpAll_39 : decode cX6_pumpAll 39 = .ok (.iastore, 1) := by decide +kernel
theorem dX6_pumpAll_40 : decode cX6_pumpAll 40 = .ok (.aload_n 0, 1) := by decide +kernel
theorem dX6_pumpAll_41 : decode cX6_pumpAll 41 = .ok (.getfield 28, 3) := by decide +kernel
theorem dX6_pumpAll_44 : decode cX6_pumpAll 44 = .ok (.iload_n 1, 1) := by decide +kernel
theorem dX6_pumpAll_45 : decode cX6_pumpAll 45 = .ok (.iconst 0, 1) := by decide +kernel
theorem dX6_pumpAll_46 : decode cX6_pumpAll 46 = .ok (.bastore, 1) := by decide +kernel
theorem dX6_pumpAll_47 : decode cX6_pumpAll 47 = .ok (.iinc 1 1, 3) := by decide +kernel
theorem dX6_pumpAll_50 : decode cX6_pumpAll 50 = .ok (.goto (-25), 3) := by decide +kernel
theorem dX6_pumpAll_53 : decode cX6_pumpAll 53 = .ok (.aload_n 0, 1) := by decide +kernel
theorem dX6_pumpAll_54 : decode cX6_pumpAll 54 = .ok (.invokevirtual 149, 3) := by decide +kernel
theorem dX6_pumpAll_57 : decode cX6_pumpAll 57 = .ok (.istore_n 1, 1) := by decide +kernel
theorem dX6_pumpAll_58 : decode cX6_pumpAll 58 = .ok (.iload_n 1, 1) := by decide +kernel
theorem dX6_pumpAll_59 : decode cX6_pumpAll 59 = .ok (.iconst (-1), 1) := by decide +kernel
theorem dX6_pumpAll_60 : decode cX6_pumpAll 60 = .ok (.if_icmp .eq 23, 3) := by decide +kernel
theorem dX6_pumpAll_63 : decode cX6_pumpAll 63 = .ok (.aload_n 0, 1) := by decide +kernel
theorem dX6_pumpAll_64 : decode cX6_pumpAll 64 = .ok (.iload_n 1, 1) := by decide +kernel
theorem dX6_pumpAll_65 : decode cX6_pumpAll 65 = .ok (.invokevirtual 153, 3) := by decide +kernel
theorem dX6_pumpAll_68 : decode cX6_pumpAll 68 = .ok (.aload_n 0, 1) := by decide +kernel
theorem dX6_pumpAll_69 : decode cX6_pumpAll 69 = .ok (.getfield 28, 3) := by decide +kernel
theorem dX6_pumpAll_72 : decode cX6_pumpAll 72 = .ok (.iload_n 1, 1) := by decide +kernel
theorem dX6_pumpAll_73 : decode cX6_pumpAll 73 = .ok (.iconst 1, 1) := by decide +kernel
theorem dX6_pumpAll_74 : decode cX6_pumpAll 74 = .ok (.bastore, 1) := by decide +kernel
theorem dX6_pumpAll_75 : decode cX6_pumpAll 75 = .ok (.aload_n 0, 1) := by decide +kernel
theorem dX6_pumpAll_76 : decode cX6_pumpAll 76 = .ok (.invokevirtual 149, 3) := by decide +kernel
theorem dX6_pumpAll_79 : decode cX6_pumpAll 79 = .ok (.istore_n 1, 1) := by decide +kernel
theorem dX6_pumpAll_80 : decode cX6_pumpAll 80 = .ok (.goto (-22), 3) := by decide +kernel
theorem dX6_pumpAll_83 : decode cX6_pumpAll 83 = .ok (.iconst 0, 1) := by decide +kernel
theorem dX6_pumpAll_84 : decode cX6_pumpAll 84 = .ok (.istore_n 1, 1) := by decide +kernel
theorem dX6_pumpAll_85 : decode cX6_pumpAll 85 = .ok (.iload_n 1, 1) := by decide +kernel
theorem dX6_pumpAll_86 : decode cX6_pumpAll 86 = .ok (.aload_n 0, 1) := by decide +kernel
theorem dX6_pumpAll_87 : decode cX6_pumpAll 87 = .ok (.getfield 59, 3) := by decide +kernel
theorem dX6_pumpAll_90 : decode cX6_pumpAll 90 = .ok (.if_icmp .ge 30, 3) := by decide +kernel
theorem dX6_pumpAll_93 : decode cX6_pumpAll 93 = .ok (.aload_n 0, 1) := by decide +kernel
theorem dX6_pumpAll_94 : decode cX6_pumpAll 94 = .ok (.iload_n 1, 1) := by decide +kernel
theorem dX6_pumpAll_95 : decode cX6_pumpAll 95 = .ok (.bipush 6, 2) := by decide +kernel
theorem dX6_pumpAll_97 : decode cX6_pumpAll 97 = .ok (.aload_n 0, 1) := by decide +kernel
theorem dX6_pumpAll_98 : decode cX6_pumpAll 98 = .ok (.iload_n 1, 1) := by decide +kernel
theorem dX6_pumpAll_99 : decode cX6_pumpAll 99 = .ok (.bipush 6, 2) := by decide +kernel
theorem dX6_pumpAll_101 : decode cX6_pumpAll 101 = .ok (.invokevirtual 65, 3) := by decide +kernel
theorem dX6_pumpAll_104 : decode cX6_pumpAll 104 = .ok (.aload_n 0, 1) := by decide +kernel
theorem dX6_pumpAll_105 : decode cX6_pumpAll 105 = .ok (.iload_n 1, 1) := by decide +kernel
theorem dX6_pumpAll_106 : decode cX6_pumpAll 106 = .ok (.iconst 5, 1) := by decide +kernel
theorem dX6_pumpAll_107 : decode cX6_pumpAll 107 = .ok (.invokevirtual 65, 3) := by decide +kernel
theorem dX6_pumpAll_110 : decode cX6_pumpAll 110 = .ok (.iadd, 1) := by decide +kernel
theorem dX6_pumpAll_111 : decode cX6_pumpAll 111 = .ok (.invokevirtual 103, 3) := by decide +kernel
theorem dX6_pumpAll_114 : decode cX6_pumpAll 114 = .ok (.iinc 1 1, 3) := by decide +kernel
theorem dX6_pumpAll_117 : decode cX6_pumpAll 117 = .ok (.goto (-32), 3) := by decide +kernel
theorem dX6_pumpAll_120 : decode cX6_pumpAll 120 = .ok (.iconst 0, 1) := by decide +kernel
theorem dX6_pumpAll_121 : decode cX6_pumpAll 121 = .ok (.istore_n 1, 1) := by decide +kernel
theorem dX6_pumpAll_122 : decode cX6_pumpAll 122 = .ok (.iload_n 1, 1) := by decide +kernel
theorem dX6_pumpAll_123 : decode cX6_pumpAll 123 = .ok (.aload_n 0, 1) := by decide +kernel
theorem dX6_pumpAll_124 : decode cX6_pumpAll 124 = .ok (.getfield 62, 3) := by decide +kernel
theorem dX6_pumpAll_127 : decode cX6_pumpAll 127 = .ok (.if_icmp .ge 37, 3) := by decide +kernel
theorem dX6_pumpAll_130 : decode cX6_pumpAll 130 = .ok (.aload_n 0, 1) := by decide +kernel
theorem dX6_pumpAll_131 : decode cX6_pumpAll 131 = .ok (.iload_n 1, 1) := by decide +kernel
theorem dX6_pumpAll_132 : decode cX6_pumpAll 132 = .ok (.bipush 8, 2) := by decide +kernel
theorem dX6_pumpAll_134 : decode cX6_pumpAll 134 = .ok (.invokevirtual 81, 3) := by decide +kernel
theorem dX6_pumpAll_137 : decode cX6_pumpAll 137 = .ok (.ifCond .le 21, 3) := by decide +kernel
theorem dX6_pumpAll_140 : decode cX6_pumpAll 140 = .ok (.aload_n 0, 1) := by decide +kernel
theorem dX6_pumpAll_141 : decode cX6_pumpAll 141 = .ok (.iload_n 1, 1) := by decide +kernel
theorem dX6_pumpAll_142 : decode cX6_pumpAll 142 = .ok (.iconst 4, 1) := by decide +kernel
theorem dX6_pumpAll_143 : decode cX6_pumpAll 143 = .ok (.iconst 0, 1) := by decide +kernel
theorem dX6_pumpAll_144 : decode cX6_pumpAll 144 = .ok (.aload_n 0, 1) := by decide +kernel
theorem dX6_pumpAll_145 : decode cX6_pumpAll 145 = .ok (.iload_n 1, 1) := by decide +kernel
theorem dX6_pumpAll_146 : decode cX6_pumpAll 146 = .ok (.iconst 4, 1) := by decide +kernel
theorem dX6_pumpAll_147 : decode cX6_pumpAll 147 = .ok (.invokevirtual 81, 3) := by decide +kernel
theorem dX6_pumpAll_150 : decode cX6_pumpAll 150 = .ok (.iconst 2, 1) := by decide +kernel
theorem dX6_pumpAll_151 : decode cX6_pumpAll 151 = .ok (.isub, 1) := by decide +kernel
theorem dX6_pumpAll_152 : decode cX6_pumpAll 152 = .ok (.invokestatic 143, 3) := by decide +kernel
theorem dX6_pumpAll_155 : decode cX6_pumpAll 155 = .ok (.invokevirtual 119, 3) := by decide +kernel
theorem dX6_pumpAll_158 : decode cX6_pumpAll 158 = .ok (.iinc 1 1, 3) := by decide +kernel
theorem dX6_pumpAll_161 : decode cX6_pumpAll 161 = .ok (.goto (-39), 3) := by decide +kernel
theorem dX6_pumpAll_164 : decode cX6_pumpAll 164 = .ok (.return_, 1) := by decide +kernel
theorem dX6_burn_0 : decode cX6_burn 0 = .ok (.aload_n 0, 1) := by decide +kernel
theorem dX6_burn_1 : decode cX6_burn 1 = .ok (.iload_n 1, 1) := by decide +kernel
theorem dX6_burn_2 : decode cX6_burn 2 = .ok (.iconst 3, 1) := by decide +kernel
theorem dX6_burn_3 : decode cX6_burn 3 = .ok (.invokevirtual 65, 3) := by decide +kernel
theorem dX6_burn_6 : decode cX6_burn 6 = .ok (.iconst 1, 1) := by decide +kernel
theorem dX6_burn_7 : decode cX6_burn 7 = .ok (.if_icmp .eq 4, 3) := by decide +kernel
theorem dX6_burn_10 : decode cX6_burn 10 = .ok (.return_, 1) := by decide +kernel
theorem dX6_burn_11 : decode cX6_burn 11 = .ok (.bipush 99, 2) := by decide +kernel
theorem dX6_burn_13 : decode cX6_burn 13 = .ok (.aload_n 0, 1) := by decide +kernel
theorem dX6_burn_14 : decode cX6_burn 14 = .ok (.iload_n 1, 1) := by decide +kernel
theorem dX6_burn_15 : decode cX6_burn 15 = .ok (.iconst 4, 1) := by decide +kernel
theorem dX6_burn_16 : decode cX6_burn 16 = .ok (.invokevirtual 65, 3) := by decide +kernel
theorem dX6_burn_19 : decode cX6_burn 19 = .ok (.aload_n 0, 1) := by decide +kernel
theorem dX6_burn_20 : decode cX6_burn 20 = .ok (.iload_n 1, 1) := by decide +kernel
theorem dX6_burn_21 : decode cX6_burn 21 = .ok (.iconst 1, 1) := by decide +kernel
theorem dX6_burn_22 : decode cX6_burn 22 = .ok (.invokevirtual 65, 3) := by decide +kernel
theorem dX6_burn_25 : decode cX6_burn 25 = .ok (.iadd, 1) := by decide +kernel
theorem dX6_burn_26 : decode cX6_burn 26 = .ok (.aload_n 0, 1) := by decide +kernel
theorem dX6_burn_27 : decode cX6_burn 27 = .ok (.iload_n 1, 1) := by decide +kernel
theorem dX6_burn_28 : decode cX6_burn 28 = .ok (.iconst 5, 1) := by decide +kernel
theorem dX6_burn_29 : decode cX6_burn 29 = .ok (.invokevirtual 65, 3) := by decide +kernel
theorem dX6_burn_32 : decode cX6_burn 32 = .ok (.iconst 4, 1) := by decide +kernel
theorem dX6_burn_33 : decode cX6_burn 33 = .ok (.idiv, 1) := by decide +kernel
theorem dX6_burn_34 : decode cX6_burn 34 = .ok (.isub, 1) := by decide +kernel
theorem dX6_burn_35 : decode cX6_burn 35 = .ok (.invokestatic 146, 3) := by decide +kernel
theorem dX6_burn_38 : decode cX6_burn 38 = .ok (.istore_n 2, 1) := by decide +kernel
theorem dX6_burn_39 : decode cX6_burn 39 = .ok (.aload_n 0, 1) := by decide +kernel
theorem dX6_burn_40 : decode cX6_burn 40 = .ok (.iload_n 1, 1) := by decide +kernel
theorem dX6_burn_41 : decode cX6_burn 41 = .ok (.iconst 4, 1) := by decide +kernel
theorem dX6_burn_42 : decode cX6_burn 42 = .ok (.iconst 0, 1) := by decide +kernel
theorem dX6_burn_43 : decode cX6_burn 43 = .ok (.iload_n 2, 1) := by decide +kernel
theorem dX6_burn_44 : decode cX6_burn 44 = .ok (.invokestatic 143, 3) := by decide +kernel
theorem dX6_burn_47 : decode cX6_burn 47 = .ok (.invokevirtual 103, 3) := by decide +kernel
theorem dX6_burn_50 : decode cX6_burn 50 = .ok (.iload_n 2, 1) := by decide +kernel
theorem dX6_burn_51 : decode cX6_burn 51 = .ok (.ifCond .gt 11, 3) := by decide +kernel
theorem dX6_burn_54 : decode cX6_burn 54 = .ok (.aload_n 0, 1) := by decide +kernel
theorem dX6_burn_55 : decode cX6_burn 55 = .ok (.iload_n 1, 1) := by decide +kernel
theorem dX6_burn_56 : decode cX6_burn 56 = .ok (.iconst 3, 1) := by decide +kernel
theorem dX6_burn_57 : decode cX6_burn 57 = .ok (.iconst 2, 1) := by decide +kernel
theorem dX6_burn_58 : decode cX6_burn 58 = .ok (.invokevirtual 103, 3) := by decide +kernel
theorem dX6_burn_61 : decode cX6_burn 61 = .ok (.return_, 1) := by decide +kernel
theorem dX6_burn_62 : decode cX6_burn 62 = .ok (.aload_n 0, 1) := by decide +kernel
theorem dX6_burn_63 : decode cX6_burn 63 = .ok (.iload_n 1, 1) := by decide +kernel
theorem dX6_burn_64 : decode cX6_burn 64 = .ok (.iconst 2, 1) := by decide +kernel
theorem dX6_burn_65 : decode cX6_burn 65 = .ok (.iconst 0, 1) := by decide +kernel
theorem dX6_burn_66 : decode cX6_burn 66 = .ok (.aload_n 0, 1) := by decide +kernel
theorem dX6_burn_67 : decode cX6_burn 67 = .ok (.iload_n 1, 1) := by decide +kernel
theorem dX6_burn_68 : decode cX6_burn 68 = .ok (.iconst 2, 1) := by decide +kernel
theorem dX6_burn_69 : decode cX6_burn 69 = .ok (.invokevirtual 65, 3) := by decide +kernel
theorem dX6_burn_72 : decode cX6_burn 72 = .ok (.iconst 1, 1) := by decide +kernel
theorem dX6_burn_73 : decode cX6_burn 73 = .ok (.isub, 1) := by decide +kernel
theorem dX6_burn_74 : decode cX6_burn 74 = .ok (.iload_n 2, 1) := by decide +kernel
theorem dX6_burn_75 : decode cX6_burn 75 = .ok (.bipush 25, 2) := by decide +kernel
theorem dX6_burn_77 : decode cX6_burn 77 = .ok (.idiv, 1) := by decide +kernel
theorem dX6_burn_78 : decode cX6_burn 78 = .ok (.isub, 1) := by decide +kernel
theorem dX6_burn_79 : decode cX6_burn 79 = .ok (.invokestatic 143, 3) := by decide +kernel
theorem dX6_burn_82 : decode cX6_burn 82 = .ok (.invokevirtual 103, 3) := by decide +kernel
theorem dX6_burn_85 : decode cX6_burn 85 = .ok (.aload_n 0, 1) := by decide +kernel
theorem dX6_burn_86 : decode cX6_burn 86 = .ok (.iload_n 1, 1) := by decide +kernel
theorem dX6_burn_87 : decode cX6_burn 87 = .ok (.iconst 2, 1) := by decide +kernel
theorem dX6_burn_88 : decode cX6_burn 88 = .ok (.invokevirtual 65, 3) := by decide +kernel
theorem dX6_burn_91 : decode cX6_burn 91 = .ok (.ifCond .le 4, 3) := by decide +kernel
theorem dX6_burn_94 : decode cX6_burn 94 = .ok (.return_, 1) := by decide +kernel
theorem dX6_burn_95 : decode cX6_burn 95 = .ok (.aload_n 0, 1) := by decide +kernel
theorem dX6_burn_96 : decode cX6_burn 96 = .ok (.iload_n 1, 1) := by decide +kernel
theorem dX6_burn_97 : decode cX6_burn 97 = .ok (.iconst 3, 1) := by decide +kernel
theorem dX6_burn_98 : decode cX6_burn 98 = .ok (.iconst 3, 1) := by decide +kernel
theorem dX6_burn_99 : decode cX6_burn 99 = .ok (.invokevirtual 103, 3) := by decide +kernel
theorem dX6_burn_102 : decode cX6_burn 102 = .ok (.aload_n 0, 1) := by decide +kernel
theorem dX6_burn_103 : decode cX6_burn 103 = .ok (.iload_n 1, 1) := by decide +kernel
theorem dX6_burn_104 : decode cX6_burn 104 = .ok (.iconst 4, 1) := by decide +kernel
theorem dX6_burn_105 : decode cX6_burn 105 = .ok (.iconst 0, 1) := by decide +kernel
theorem dX6_burn_106 : decode cX6_burn 106 = .ok (.invokevirtual 103, 3) := by decide +kernel
theorem dX6_burn_109 : decode cX6_burn 109 = .ok (.return_, 1) := by decide +kernel
theorem dX6_minuteOn_0 : decode cX6_minuteOn 0 = .ok (.iconst 0, 1) := by decide +kernel
theorem dX6_minuteOn_1 : decode cX6_minuteOn 1 = .ok (.istore_n 1, 1) := by decide +kernel
theorem dX6_minuteOn_2 : decode cX6_minuteOn 2 = .ok (.iload_n 1, 1) := by decide +kernel
theorem dX6_minuteOn_3 : decode cX6_minuteOn 3 = .ok (.aload_n 0, 1) := by decide +kernel
theorem dX6_minuteOn_4 : decode cX6_minuteOn 4 = .ok (.getfield 62, 3) := by decide +kernel
theorem dX6_minuteOn_7 : decode cX6_minuteOn 7 = .ok (.if_icmp .ge 80, 3) := by decide +kernel
theorem dX6_minuteOn_10 : decode cX6_minuteOn 10 = .ok (.aload_n 0, 1) := by decide +kernel
theorem dX6_minuteOn_11 : decode cX6_minuteOn 11 = .ok (.iload_n 1, 1) := by decide +kernel
theorem dX6_minuteOn_12 : decode cX6_minuteOn 12 = .ok (.iconst 3, 1) := by decide +kernel
theorem dX6_minuteOn_13 : decode cX6_minuteOn 13 = .ok (.invokevirtual 81, 3) := by decide +kernel
theorem dX6_minuteOn_16 : decode cX6_minuteOn 16 = .ok (.ifCond .le 7, 3) := by decide +kernel
theorem dX6_minuteOn_19 : decode cX6_minuteOn 19 = .ok (.iconst 1, 1) := by decide +kernel
theorem dX6_minuteOn_20 : decode cX6_minuteOn 20 = .ok (.goto 4, 3) := by decide +kernel
theorem dX6_minuteOn_23 : decode cX6_minuteOn 23 = .ok (.iconst 0, 1) := by decide +kernel
theorem dX6_minuteOn_24 : decode cX6_minuteOn 24 = .ok (.istore_n 2, 1) := by decide +kernel
theorem dX6_minuteOn_25 : decode cX6_minuteOn 25 = .ok (.aload_n 0, 1) := by decide +kernel
theorem dX6_minuteOn_26 : decode cX6_minuteOn 26 = .ok (.iload_n 1, 1) := by decide +kernel
theorem dX6_minuteOn_27 : decode cX6_minuteOn 27 = .ok (.iconst 3, 1) := by decide +kernel
theorem dX6_minuteOn_28 : decode cX6_minuteOn 28 = .ok (.iconst 0, 1) := by decide +kernel
theorem dX6_minuteOn_29 : decode cX6_minuteOn 29 = .ok (.aload_n 0, 1) := by decide +kernel
theorem dX6_minuteOn_30 : decode cX6_minuteOn 30 = .ok (.iload_n 1, 1) := by decide +kernel
theorem dX6_minuteOn_31 : decode cX6_minuteOn 31 = .ok (.iconst 3, 1) := by decide +kernel
theorem dX6_minuteOn_32 : decode cX6_minuteOn 32 = .ok (.invokevirtual 81, 3) := by decide +kernel
theorem dX6_minuteOn_35 : decode cX6_minuteOn 35 = .ok (.iconst 1, 1) := by decide +kernel
theorem dX6_minuteOn_36 : decode cX6_minuteOn 36 = .ok (.isub, 1) := by decide +kernel
theorem dX6_minuteOn_37 : decode cX6_minuteOn 37 = .ok (.invokestatic 143, 3) := by decide +kernel
theorem dX6_minuteOn_40 : decode cX6_minuteOn 40 = .ok (.invokevirtual 119, 3) := by decide +kernel
theorem dX6_minuteOn_43 : decode cX6_minuteOn 43 = .ok (.aload_n 0, 1) := by decide +kernel
theorem dX6_minuteOn_44 : decode cX6_minuteOn 44 = .ok (.iload_n 1, 1) := by decide +kernel
theorem dX6_minuteOn_45 : decode cX6_minuteOn 45 = .ok (.iconst 4, 1) := by decide +kernel
theorem dX6_minuteOn_46 : decode cX6_minuteOn 46 = .ok (.iload_n 2, 1) := by decide +kernel
theorem dX6_minuteOn_47 : decode cX6_minuteOn 47 = .ok (.ifCond .eq 19, 3) := by decide +kernel
theorem dX6_minuteOn_50 : decode cX6_minuteOn 50 = .ok (.bipush 100, 2) := by decide +kernel
theorem dX6_minuteOn_52 : decode cX6_minuteOn 52 = .ok (.aload_n 0, 1) := by decide +kernel
theorem dX6_minuteOn_53 : decode cX6_minuteOn 53 = .ok (.iload_n 1, 1) := by decide +kernel
theorem dX6_minuteOn_54 : decode cX6_minuteOn 54 = .ok (.iconst 4, 1) := by decide +kernel
theorem dX6_minuteOn_55 : decode cX6_minuteOn 55 = .ok (.invokevirtual 81, 3) := by decide +kernel
theorem dX6_minuteOn_58 : decode cX6_minuteOn 58 = .ok (.iconst 4, 1) := by decide +kernel
theorem dX6_minuteOn_59 : decode cX6_minuteOn 59 = .ok (.iadd, 1) := by decide +kernel
theorem dX6_minuteOn_60 : decode cX6_minuteOn 60 = .ok (.invokestatic 146, 3) := by decide +kernel
theorem dX6_minuteOn_63 : decode cX6_minuteOn 63 = .ok (.goto 15, 3) := by decide +kernel
theorem dX6_minuteOn_66 : decode cX6_minuteOn 66 = .ok (.iconst 0, 1) := by decide +kernel
theorem dX6_minuteOn_67 : decode cX6_minuteOn 67 = .ok (.aload_n 0, 1) := by decide +kernel
theorem dX6_minuteOn_68 : decode cX6_minuteOn 68 = .ok (.iload_n 1, 1) := by decide +kernel
theorem dX6_minuteOn_69 : decode cX6_minuteOn 69 = .ok (.iconst 4, 1) := by decide +kernel
theorem dX6_minuteOn_70 : decode cX6_minuteOn 70 = .ok (.invokevirtual 81, 3) := by decide +kernel
theorem dX6_minuteOn_73 : decode cX6_minuteOn 73 = .ok (.iconst 3, 1) := by decide +kernel
theorem dX6_minuteOn_74 : decode cX6_minuteOn 74 = .ok (.isub, 1) := by decide +kernel
theorem dX6_minuteOn_75 : decode cX6_minuteOn 75 = .ok (.invokestatic 143, 3) := by decide +kernel
theorem dX6_minuteOn_78 : decode cX6_minuteOn 78 = .ok (.invokevirtual 119, 3) := by decide +kernel
theorem dX6_minuteOn_81 : decode cX6_minuteOn 81 = .ok (.iinc 1 1, 3) := by decide +kernel
theorem dX6_minuteOn_84 : decode cX6_minuteOn 84 = .ok (.goto (-82), 3) := by decide +kernel
theorem dX6_minuteOn_87 : decode cX6_minuteOn 87 = .ok (.iconst 0, 1) := by decide +kernel
theorem dX6_minuteOn_88 : decode cX6_minuteOn 88 = .ok (.istore_n 1, 1) := by decide +kernel
theorem dX6_minuteOn_89 : decode cX6_minuteOn 89 = .ok (.iload_n 1, 1) := by decide +kernel
theorem dX6_minuteOn_90 : decode cX6_minuteOn 90 = .ok (.aload_n 0, 1) := by decide +kernel
theorem dX6_minuteOn_91 : decode cX6_minuteOn 91 = .ok (.getfield 62, 3) := by decide +kernel
theorem dX6_minuteOn_94 : decode cX6_minuteOn 94 = .ok (.if_icmp .ge 55, 3) := by decide +kernel
theorem dX6_minuteOn_97 : decode cX6_minuteOn 97 = .ok (.aload_n 0, 1) := by decide +kernel
theorem dX6_minuteOn_98 : decode cX6_minuteOn 98 = .ok (.iload_n 1, 1) := by decide +kernel
theorem dX6_minuteOn_99 : decode cX6_minuteOn 99 = .ok (.invokevirtual 128, 3) := by decide +kernel
theorem dX6_minuteOn_102 : decode cX6_minuteOn 102 = .ok (.ifCond .eq 6, 3) := by decide +kernel
theorem dX6_minuteOn_105 : decode cX6_minuteOn 105 = .ok (.goto 38, 3) := by decide +kernel
theorem dX6_minuteOn_108 : decode cX6_minuteOn 108 = .ok (.aload_n 0, 1) := by decide +kernel
theorem dX6_minuteOn_109 : decode cX6_minuteOn 109 = .ok (.iload_n 1, 1) := by decide +kernel
theorem dX6_minuteOn_110 : decode cX6_minuteOn 110 = .ok (.iconst 5, 1) := by decide +kernel
theorem dX6_minuteOn_111 : decode cX6_minuteOn 111 = .ok (.aload_n 0, 1) := by decide +kernel
theorem dX6_minuteOn_112 : decode cX6_minuteOn 112 = .ok (.iload_n 1, 1) := by decide +kernel
theorem dX6_minuteOn_113 : decode cX6_minuteOn 113 = .ok (.iconst 5, 1) := by decide +kernel
theorem dX6_minuteOn_114 : decode cX6_minuteOn 114 = .ok (.invokevirtual 81, 3) := by decide +kernel
theorem dX6_minuteOn_117 : decode cX6_minuteOn 117 = .ok (.iconst 1, 1) := by decide +kernel
theorem dX6_minuteOn_118 : decode cX6_minuteOn 118 = .ok (.isub, 1) := by decide +kernel
theorem dX6_minuteOn_119 : decode cX6_minuteOn 119 = .ok (.invokevirtual 119, 3) := by decide +kernel
theorem dX6_minuteOn_122 : decode cX6_minuteOn 122 = .ok (.aload_n 0, 1) := by decide +kernel
theorem dX6_minuteOn_123 : decode cX6_minuteOn 123 = .ok (.iload_n 1, 1) := by decide +kernel
theorem dX6_minuteOn_124 : decode cX6_minuteOn 124 = .ok (.invokevirtual 128, 3) := by decide +kernel
theorem dX6_minuteOn_127 : decode cX6_minuteOn 127 = .ok (.ifCond .eq 16, 3) := by decide +kernel
theorem dX6_minuteOn_130 : decode cX6_minuteOn 130 = .ok (.aload_n 0, 1) := by decide +kernel
theorem dX6_minuteOn_131 : decode cX6_minuteOn 131 = .ok (.iload_n 1, 1) := by decide +kernel
theorem dX6_minuteOn_132 : decode cX6_minuteOn 132 = .ok (.iconst 0, 1) := by decide +kernel
theorem dX6_minuteOn_133 : decode cX6_minuteOn 133 = .ok (.aload_n 0, 1) := by decide +kernel
theorem dX6_minuteOn_134 : decode cX6_minuteOn 134 = .ok (.iload_n 1, 1) := by decide +kernel
theorem dX6_minuteOn_135 : decode cX6_minuteOn 135 = .ok (.bipush 6, 2) := by decide +kernel
theorem dX6_minuteOn_137 : decode cX6_minuteOn 137 = .ok (.invokevirtual 81, 3) := by decide +kernel
theorem dX6_minuteOn_140 : decode cX6_minuteOn 140 = .ok (.invokevirtual 119, 3) := by decide +kernel
theorem dX6_minuteOn_143 : decode cX6_minuteOn 143 = .ok (.iinc 1 1, 3) := by decide +kernel
theorem dX6_minuteOn_146 : decode cX6_minuteOn 146 = .ok (.goto (-57), 3) := by decide +kernel
theorem dX6_minuteOn_149 : decode cX6_minuteOn 149 = .ok (.aload_n 0, 1) := by decide +kernel
theorem dX6_minuteOn_150 : decode cX6_minuteOn 150 = .ok (.invokevirtual 157, 3) := by decide +kernel
theorem dX6_minuteOn_153 : decode cX6_minuteOn 153 = .ok (.iconst 0, 1) := by decide +kernel
theorem dX6_minuteOn_154 : decode cX6_minuteOn 154 = .ok (.istore_n 1, 1) := by decide +kernel
theorem dX6_minuteOn_155 : decode cX6_minuteOn 155 = .ok (.iload_n 1, 1) := by decide +kernel
theorem dX6_minuteOn_156 : decode cX6_minuteOn 156 = .ok (.aload_n 0, 1) := by decide +kernel
theorem dX6_minuteOn_157 : decode cX6_minuteOn 157 = .ok (.getfield 59, 3) := by decide +kernel
theorem dX6_minuteOn_160 : decode cX6_minuteOn 160 = .ok (.if_icmp .ge 14, 3) := by decide +kernel
theorem dX6_minuteOn_163 : decode cX6_minuteOn 163 = .ok (.aload_n 0, 1) := by decide +kernel
theorem dX6_minuteOn_164 : decode cX6_minuteOn 164 = .ok (.iload_n 1, 1) := by decide +kernel
theorem dX6_minuteOn_165 : decode cX6_minuteOn 165 = .ok (.invokevirtual 160, 3) := by decide +kernel
theorem dX6_minuteOn_168 : decode cX6_minuteOn 168 = .ok (.iinc 1 1, 3) := by decide +kernel
theorem dX6_minuteOn_171 : decode cX6_minuteOn 171 = .ok (.goto (-16), 3) := by decide +kernel
theorem dX6_minuteOn_174 : decode cX6_minuteOn 174 = .ok (.iconst 0, 1) := by decide +kernel
theorem dX6_minuteOn_175 : decode cX6_minuteOn 175 = .ok (.istore_n 1, 1) := by decide +kernel
theorem dX6_minuteOn_176 : decode cX6_minuteOn 176 = .ok (.iconst 0, 1) := by decide +kernel
theorem dX6_minuteOn_177 : decode cX6_minuteOn 177 = .ok (.istore_n 2, 1) := by decide +kernel
theorem dX6_minuteOn_178 : decode cX6_minuteOn 178 = .ok (.iload_n 2, 1) := by decide +kernel
theorem dX6_minuteOn_179 : decode cX6_minuteOn 179 = .ok (.aload_n 0, 1) := by decide +kernel
theorem dX6_minuteOn_180 : decode cX6_minuteOn 180 = .ok (.getfield 59, 3) := by decide +kernel
theorem dX6_minuteOn_183 : decode cX6_minuteOn 183 = .ok (.if_icmp .ge 51, 3) := by decide +kernel
theorem dX6_minuteOn_186 : decode cX6_minuteOn 186 = .ok (.aload_n 0, 1) := by decide +kernel
theorem dX6_minuteOn_187 : decode cX6_minuteOn 187 = .ok (.getfield 35, 3) := by decide +kernel
theorem dX6_minuteOn_190 : decode cX6_minuteOn 190 = .ok (.iload_n 2, 1) := by decide +kernel
theorem dX6_minuteOn_191 : decode cX6_minuteOn 191 = .ok (.aload_n 0, 1) := by decide +kernel
theorem dX6_minuteOn_192 : decode cX6_minuteOn 192 = .ok (.iload_n 2, 1) := by decide +kernel
theorem dX6_minuteOn_193 : decode cX6_minuteOn 193 = .ok (.iconst 3, 1) := by decide +kernel
theorem dX6_minuteOn_194 : decode cX6_minuteOn 194 = .ok (.invokevirtual 65, 3) := by decide +kernel
theorem dX6_minuteOn_197 : decode cX6_minuteOn 197 = .ok (.ifCond .ne 29, 3) := by decide +kernel
theorem dX6_minuteOn_200 : decode cX6_minuteOn 200 = .ok (.aload_n 0, 1) := by decide +kernel
theorem dX6_minuteOn_201 : decode cX6_minuteOn 201 = .ok (.aload_n 0, 1) := by decide +kernel
theorem dX6_minuteOn_202 : decode cX6_minuteOn 202 = .ok (.iload_n 2, 1) := by decide +kernel
theorem dX6_minuteOn_203 : decode cX6_minuteOn 203 = .ok (.iconst 0, 1) := by decide +kernel
theorem dX6_minuteOn_204 : decode cX6_minuteOn 204 = .ok (.invokevirtual 65, 3) := by decide +kernel
theorem dX6_minuteOn_207 : decode cX6_minuteOn 207 = .ok (.invokevirtual 113, 3) := by decide +kernel
theorem dX6_minuteOn_210 : decode cX6_minuteOn 210 = .ok (.aload_n 0, 1) := by decide +kernel
theorem dX6_minuteOn_211 : decode cX6_minuteOn 211 = .ok (.iload_n 2, 1) := by decide +kernel
theorem dX6_minuteOn_212 : decode cX6_minuteOn 212 = .ok (.iconst 5, 1) := by decide +kernel
theorem dX6_minuteOn_213 : decode cX6_minuteOn 213 = .ok (.invokevirtual 65, 3) := by decide +kernel
theorem dX6_minuteOn_216 : decode cX6_minuteOn 216 = .ok (.isub, 1) := by decide +kernel
theorem dX6_minuteOn_217 : decode cX6_minuteOn 217 = .ok (.bipush 40, 2) := by decide +kernel
theorem dX6_minuteOn_219 : decode cX6_minuteOn 219 = .ok (.if_icmp .lt 7, 3) := by decide +kernel
theorem dX6_minuteOn_222 : decode cX6_minuteOn 222 = .ok (.iconst 1, 1) := by decide +kernel
theorem dX6_minuteOn_223 : decode cX6_minuteOn 223 = .ok (.goto 4, 3) := by decide +kernel
theorem dX6_minuteOn_226 : decode cX6_minuteOn 226 = .ok (.iconst 0, 1) := by decide +kernel
theorem dX6_minuteOn_227 : decode cX6_minuteOn 227 = .ok (.bastore, 1) := by decide +kernel
theorem dX6_minuteOn_228 : decode cX6_minuteOn 228 = .ok (.iinc 2 1, 3) := by decide +kernel
theorem dX6_minuteOn_231 : decode cX6_minuteOn 231 = .ok (.goto (-53), 3) := by decide +kernel
theorem dX6_minuteOn_234 : decode cX6_minuteOn 234 = .ok (.iconst 0, 1) := by decide +kernel
theorem dX6_minuteOn_235 : decode cX6_minuteOn 235 = .ok (.istore_n 2, 1) := by decide +kernel
theorem dX6_minuteOn_236 : decode cX6_minuteOn 236 = .ok (.iload_n 2, 1) := by decide +kernel
theorem dX6_minuteOn_237 : decode cX6_minuteOn 237 = .ok (.aload_n 0, 1) := by decide +kernel
theorem dX6_minuteOn_238 : decode cX6_minuteOn 238 = .ok (.getfield 59, 3) := by decide +kernel
theorem dX6_minuteOn_241 : decode cX6_minuteOn 241 = .ok (.if_icmp .ge 38, 3) := by decide +kernel
theorem dX6_minuteOn_244 : decode cX6_minuteOn 244 = .ok (.aload_n 0, 1) := by decide +kernel
theorem dX6_minuteOn_245 : decode cX6_minuteOn 245 = .ok (.getfield 35, 3) := by decide +kernel
theorem dX6_minuteOn_248 : decode cX6_minuteOn 248 = .ok (.iload_n 2, 1) := by decide +kernel
theorem dX6_minuteOn_249 : decode cX6_minuteOn 249 = .ok (.baload, 1) := by decide +kernel
theorem dX6_minuteOn_250 : decode cX6_minuteOn 250 = .ok (.ifCond .ne 6, 3) := by decide +kernel
theorem dX6_minuteOn_253 : decode cX6_minuteOn 253 = .ok (.goto 20, 3) := by decide +kernel
theorem dX6_minuteOn_256 : decode cX6_minuteOn 256 = .ok (.aload_n 0, 1) := by decide +kernel
theorem dX6_minuteOn_257 : decode cX6_minuteOn 257 = .ok (.iload_n 2, 1) := by decide +kernel
theorem dX6_minuteOn_258 : decode cX6_minuteOn 258 = .ok (.iconst 3, 1) := by decide +kernel
theorem dX6_minuteOn_259 : decode cX6_minuteOn 259 = .ok (.iconst 1, 1) := by decide +kernel
theorem dX6_minuteOn_260 : decode cX6_minuteOn 260 = .ok (.invokevirtual 103, 3) := by decide +kernel
theorem dX6_minuteOn_263 : decode cX6_minuteOn 263 = .ok (.aload_n 0, 1) := by decide +kernel
theorem dX6_minuteOn_264 : decode cX6_minuteOn 264 = .ok (.iload_n 2, 1) := by decide +kernel
theorem dX6_minuteOn_265 : decode cX6_minuteOn 265 = .ok (.iconst 4, 1) := by decide +kernel
theorem dX6_minuteOn_266 : decode cX6_minuteOn 266 = .ok (.iconst 5, 1) := by decide +kernel
theorem dX6_minuteOn_267 : decode cX6_minuteOn 267 = .ok (.invokevirtual 103, 3) := by decide +kernel
theorem dX6_minuteOn_270 : decode cX6_minuteOn 270 = .ok (.iinc 1 1, 3) := by decide +kernel
theorem dX6_minuteOn_273 : decode cX6_minuteOn 273 = .ok (.iinc 2 1, 3) := by decide +kernel
theorem dX6_minuteOn_276 : decode cX6_minuteOn 276 = .ok (.goto (-40), 3) := by decide +kernel
theorem dX6_minuteOn_279 : decode cX6_minuteOn 279 = .ok (.aload_n 0, 1) := by decide +kernel
theorem dX6_minuteOn_280 : decode cX6_minuteOn 280 = .ok (.getfield 22, 3) := by decide +kernel
theorem dX6_minuteOn_283 : decode cX6_minuteOn 283 = .ok (.iconst 0, 1) := by decide +kernel
theorem dX6_minuteOn_284 : decode cX6_minuteOn 284 = .ok (.dup2, 1) := by decide +kernel
theorem dX6_minuteOn_285 : decode cX6_minuteOn 285 = .ok (.iaload, 1) := by decide +kernel
theorem dX6_minuteOn_286 : decode cX6_minuteOn 286 = .ok (.iconst 1, 1) := by decide +kernel
theorem dX6_minuteOn_287 : decode cX6_minuteOn 287 = .ok (.iadd, 1) := by decide +kernel
theorem dX6_minuteOn_288 : decode cX6_minuteOn 288 = .ok (.iastore, 1) := by decide +kernel
theorem dX6_minuteOn_289 : decode cX6_minuteOn 289 = .ok (.iload_n 1, 1) := by decide +kernel
theorem dX6_minuteOn_290 : decode cX6_minuteOn 290 = .ok (.ireturn, 1) := by decide +kernel
theorem dX6_pass_0 : decode cX6_pass 0 = .ok (.aload_n 0, 1) := by decide +kernel
theorem dX6_pass_1 : decode cX6_pass 1 = .ok (.iconst 0, 1) := by decide +kernel
theorem dX6_pass_2 : decode cX6_pass 2 = .ok (.putfield 38, 3) := by decide +kernel
theorem dX6_pass_5 : decode cX6_pass 5 = .ok (.iload_n 1, 1) := by decide +kernel
theorem dX6_pass_6 : decode cX6_pass 6 = .ok (.iconst 1, 1) := by decide +kernel
theorem dX6_pass_7 : decode cX6_pass 7 = .ok (.bipush 100, 2) := by decide +kernel
theorem dX6_pass_9 : decode cX6_pass 9 = .ok (.invokestatic 42, 3) := by decide +kernel
theorem dX6_pass_12 : decode cX6_pass 12 = .ok (.ifCond .ne 9, 3) := by decide +kernel
theorem dX6_pass_15 : decode cX6_pass 15 = .ok (.aload_n 0, 1) := by decide +kernel
theorem dX6_pass_16 : decode cX6_pass 16 = .ok (.iconst 1, 1) := by decide +kernel
theorem dX6_pass_17 : decode cX6_pass 17 = .ok (.invokevirtual 88, 3) := by decide +kernel
theorem dX6_pass_20 : decode cX6_pass 20 = .ok (.ireturn, 1) := by decide +kernel
theorem dX6_pass_21 : decode cX6_pass 21 = .ok (.iconst 0, 1) := by decide +kernel
theorem dX6_pass_22 : decode cX6_pass 22 = .ok (.istore_n 2, 1) := by decide +kernel
theorem dX6_pass_23 : decode cX6_pass 23 = .ok (.iconst 0, 1) := by decide +kernel
theorem dX6_pass_24 : decode cX6_pass 24 = .ok (.istore_n 3, 1) := by decide +kernel
theorem dX6_pass_25 : decode cX6_pass 25 = .ok (.iload_n 3, 1) := by decide +kernel
theorem dX6_pass_26 : decode cX6_pass 26 = .ok (.iload_n 1, 1) := by decide +kernel
theorem dX6_pass_27 : decode cX6_pass 27 = .ok (.if_icmp .ge 16, 3) := by decide +kernel
theorem dX6_pass_30 : decode cX6_pass 30 = .ok (.iload_n 2, 1) := by decide +kernel
theorem dX6_pass_31 : decode cX6_pass 31 = .ok (.aload_n 0, 1) := by decide +kernel
theorem dX6_pass_32 : decode cX6_pass 32 = .ok (.invokevirtual 163, 3) := by decide +kernel
theorem dX6_pass_35 : decode cX6_pass 35 = .ok (.iadd, 1) := by decide +kernel
theorem dX6_pass_36 : decode cX6_pass 36 = .ok (.istore_n 2, 1) := by decide +kernel
theorem dX6_pass_37 : decode cX6_pass 37 = .ok (.iinc 3 1, 3) := by decide +kernel
theorem dX6_pass_40 : decode cX6_pass 40 = .ok (.goto (-15), 3) := by decide +kernel
theorem dX6_pass_43 : decode cX6_pass 43 = .ok (.iload_n 2, 1) := by decide +kernel
theorem dX6_pass_44 : decode cX6_pass 44 = .ok (.ireturn, 1) := by decide +kernel
theorem dX6_counted_0 : decode cX6_counted 0 = .ok (.iconst 0, 1) := by decide +kernel
theorem dX6_counted_1 : decode cX6_counted 1 = .ok (.istore_n 2, 1) := by decide +kernel
theorem dX6_counted_2 : decode cX6_counted 2 = .ok (.iload_n 1, 1) := by decide +kernel
theorem dX6_counted_3 : decode cX6_counted 3 = .ok (.tableswitch 102 0 7 #[45, 52, 57, 57, 57, 65, 70, 75], 45) := by decide +kernel
theorem dX6_counted_48 : decode cX6_counted 48 = .ok (.aload_n 0, 1) := by decide +kernel
theorem dX6_counted_49 : decode cX6_counted 49 = .ok (.getfield 22, 3) := by decide +kernel
theorem dX6_counted_52 : decode cX6_counted 52 = .ok (.iconst 0, 1) := by decide +kernel
theorem dX6_counted_53 : decode cX6_counted 53 = .ok (.iaload, 1) := by decide +kernel
theorem dX6_counted_54 : decode cX6_counted 54 = .ok (.ireturn, 1) := by decide +kernel
theorem dX6_counted_55 : decode cX6_counted 55 = .ok (.aload_n 0, 1) := by decide +kernel
theorem dX6_counted_56 : decode cX6_counted 56 = .ok (.getfield 59, 3) := by decide +kernel
theorem dX6_counted_59 : decode cX6_counted 59 = .ok (.ireturn, 1) := by decide +kernel
theorem dX6_counted_60 : decode cX6_counted 60 = .ok (.aload_n 0, 1) := by decide +kernel
theorem dX6_counted_61 : decode cX6_counted 61 = .ok (.iload_n 1, 1) := by decide +kernel
theorem dX6_counted_62 : decode cX6_counted 62 = .ok (.iconst 1, 1) := by decide +kernel
theorem dX6_counted_63 : decode cX6_counted 63 = .ok (.isub, 1) := by decide +kernel
theorem dX6_counted_64 : decode cX6_counted 64 = .ok (.invokevirtual 107, 3) := by decide +kernel
theorem dX6_counted_67 : decode cX6_counted 67 = .ok (.ireturn, 1) := by decide +kernel
theorem dX6_counted_68 : decode cX6_counted 68 = .ok (.aload_n 0, 1) := by decide +kernel
theorem dX6_counted_69 : decode cX6_counted 69 = .ok (.getfield 68, 3) := by decide +kernel
theorem dX6_counted_72 : decode cX6_counted 72 = .ok (.ireturn, 1) := by decide +kernel
theorem dX6_counted_73 : decode cX6_counted 73 = .ok (.aload_n 0, 1) := by decide +kernel
theorem dX6_counted_74 : decode cX6_counted 74 = .ok (.getfield 62, 3) := by decide +kernel
theorem dX6_counted_77 : decode cX6_counted 77 = .ok (.ireturn, 1) := by decide +kernel
theorem dX6_counted_78 : decode cX6_counted 78 = .ok (.iconst 0, 1) := by decide +kernel
theorem dX6_counted_79 : decode cX6_counted 79 = .ok (.istore_n 3, 1) := by decide +kernel
theorem dX6_counted_80 : decode cX6_counted 80 = .ok (.iload_n 3, 1) := by decide +kernel
theorem dX6_counted_81 : decode cX6_counted 81 = .ok (.aload_n 0, 1) := by decide +kernel
theorem dX6_counted_82 : decode cX6_counted 82 = .ok (.getfield 68, 3) := by decide +kernel
theorem dX6_counted_85 : decode cX6_counted 85 = .ok (.if_icmp .ge 18, 3) := by decide +kernel
theorem dX6_counted_88 : decode cX6_counted 88 = .ok (.iload_n 2, 1) := by decide +kernel
theorem dX6_counted_89 : decode cX6_counted 89 = .ok (.aload_n 0, 1) := by decide +kernel
theorem dX6_counted_90 : decode cX6_counted 90 = .ok (.getfield 13, 3) := by decide +kernel
theorem dX6_counted_93 : decode cX6_counted 93 = .ok (.iload_n 3, 1) := by decide +kernel
theorem dX6_counted_94 : decode cX6_counted 94 = .ok (.iaload, 1) := by decide +kernel
theorem dX6_counted_95 : decode cX6_counted 95 = .ok (.iadd, 1) := by decide +kernel
theorem dX6_counted_96 : decode cX6_counted 96 = .ok (.istore_n 2, 1) := by decide +kernel
theorem dX6_counted_97 : decode cX6_counted 97 = .ok (.iinc 3 1, 3) := by decide +kernel
theorem dX6_counted_100 : decode cX6_counted 100 = .ok (.goto (-20), 3) := by decide +kernel
theorem dX6_counted_103 : decode cX6_counted 103 = .ok (.iload_n 2, 1) := by decide +kernel
theorem dX6_counted_104 : decode cX6_counted 104 = .ok (.ireturn, 1) := by decide +kernel
theorem dX6_counted_105 : decode cX6_counted 105 = .ok (.iconst 0, 1) := by decide +kernel
theorem dX6_counted_106 : decode cX6_counted 106 = .ok (.istore_n 3, 1) := by decide +kernel
theorem dX6_counted_107 : decode cX6_counted 107 = .ok (.iload_n 3, 1) := by decide +kernel
theorem dX6_counted_108 : decode cX6_counted 108 = .ok (.aload_n 0, 1) := by decide +kernel
theorem dX6_counted_109 : decode cX6_counted 109 = .ok (.getfield 59, 3) := by decide +kernel
theorem dX6_counted_112 : decode cX6_counted 112 = .ok (.if_icmp .ge 29, 3) := by decide +kernel
theorem dX6_counted_115 : decode cX6_counted 115 = .ok (.iload_n 2, 1) := by decide +kernel
theorem dX6_counted_116 : decode cX6_counted 116 = .ok (.aload_n 0, 1) := by decide +kernel
theorem dX6_counted_117 : decode cX6_counted 117 = .ok (.iload_n 3, 1) := by decide +kernel
theorem dX6_counted_118 : decode cX6_counted 118 = .ok (.iload_n 1, 1) := by decide +kernel
theorem dX6_counted_119 : decode cX6_counted 119 = .ok (.bipush 8, 2) := by decide +kernel
theorem dX6_counted_121 : decode cX6_counted 121 = .ok (.if_icmp .ne 7, 3) := by decide +kernel
theorem dX6_counted_124 : decode cX6_counted 124 = .ok (.iconst 4, 1) := by decide +kernel
theorem dX6_counted_125 : decode cX6_counted 125 = .ok (.goto 5, 3) := by decide +kernel
theorem dX6_counted_128 : decode cX6_counted 128 = .ok (.bipush 6, 2) := by decide +kernel
theorem dX6_counted_130 : decode cX6_counted 130 = .ok (.invokevirtual 65, 3) := by decide +kernel
theorem dX6_counted_133 : decode cX6_counted 133 = .ok (.iadd, 1) := by decide +kernel
theorem dX6_counted_134 : decode cX6_counted 134 = .ok (.istore_n 2, 1) := by decide +kernel
theorem dX6_counted_135 : decode cX6_counted 135 = .ok (.iinc 3 1, 3) := by decide +kernel
theorem dX6_counted_138 : decode cX6_counted 138 = .ok (.goto (-31), 3) := by decide +kernel
theorem dX6_counted_141 : decode cX6_counted 141 = .ok (.iload_n 2, 1) := by decide +kernel
theorem dX6_counted_142 : decode cX6_counted 142 = .ok (.ireturn, 1) := by decide +kernel
theorem dX6_count_0 : decode cX6_count 0 = .ok (.aload_n 0, 1) := by decide +kernel
theorem dX6_count_1 : decode cX6_count 1 = .ok (.iconst 0, 1) := by decide +kernel
theorem dX6_count_2 : decode cX6_count 2 = .ok (.putfield 38, 3) := by decide +kernel
theorem dX6_count_5 : decode cX6_count 5 = .ok (.iload_n 1, 1) := by decide +kernel
theorem dX6_count_6 : decode cX6_count 6 = .ok (.iconst 0, 1) := by decide +kernel
theorem dX6_count_7 : decode cX6_count 7 = .ok (.bipush 9, 2) := by decide +kernel
theorem dX6_count_9 : decode cX6_count 9 = .ok (.invokestatic 42, 3) := by decide +kernel
theorem dX6_count_12 : decode cX6_count 12 = .ok (.ifCond .eq 11, 3) := by decide +kernel
theorem dX6_count_15 : decode cX6_count 15 = .ok (.aload_n 0, 1) := by decide +kernel
theorem dX6_count_16 : decode cX6_count 16 = .ok (.iload_n 1, 1) := by decide +kernel
theorem dX6_count_17 : decode cX6_count 17 = .ok (.invokevirtual 166, 3) := by decide +kernel
theorem dX6_count_20 : decode cX6_count 20 = .ok (.goto 8, 3) := by decide +kernel
theorem dX6_count_23 : decode cX6_count 23 = .ok (.aload_n 0, 1) := by decide +kernel
theorem dX6_count_24 : decode cX6_count 24 = .ok (.iconst 1, 1) := by decide +kernel
theorem dX6_count_25 : decode cX6_count 25 = .ok (.invokevirtual 88, 3) := by decide +kernel
theorem dX6_count_28 : decode cX6_count 28 = .ok (.ireturn, 1) := by decide +kernel
theorem dX6_kept_0 : decode cX6_kept 0 = .ok (.iconst 4, 1) := by decide +kernel
theorem dX6_kept_1 : decode cX6_kept 1 = .ok (.anewarray 169, 3) := by decide +kernel
theorem dX6_kept_4 : decode cX6_kept 4 = .ok (.dup, 1) := by decide +kernel
theorem dX6_kept_5 : decode cX6_kept 5 = .ok (.iconst 0, 1) := by decide +kernel
theorem dX6_kept_6 : decode cX6_kept 6 = .ok (.aload_n 0, 1) := by decide +kernel
theorem dX6_kept_7 : decode cX6_kept 7 = .ok (.getfield 13, 3) := by decide +kernel
theorem dX6_kept_10 : decode cX6_kept 10 = .ok (.invokevirtual 170, 3) := by decide +kernel
theorem dX6_kept_13 : decode cX6_kept 13 = .ok (.checkcast 169, 3) := by decide +kernel
theorem dX6_kept_16 : decode cX6_kept 16 = .ok (.aastore, 1) := by decide +kernel
theorem dX6_kept_17 : decode cX6_kept 17 = .ok (.dup, 1) := by decide +kernel
theorem dX6_kept_18 : decode cX6_kept 18 = .ok (.iconst 1, 1) := by decide +kernel
theorem dX6_kept_19 : decode cX6_kept 19 = .ok (.aload_n 0, 1) := by decide +kernel
theorem dX6_kept_20 : decode cX6_kept 20 = .ok (.getfield 16, 3) := by decide +kernel
theorem dX6_kept_23 : decode cX6_kept 23 = .ok (.invokevirtual 170, 3) := by decide +kernel
theorem dX6_kept_26 : decode cX6_kept 26 = .ok (.checkcast 169, 3) := by decide +kernel
theorem dX6_kept_29 : decode cX6_kept 29 = .ok (.aastore, 1) := by decide +kernel
theorem dX6_kept_30 : decode cX6_kept 30 = .ok (.dup, 1) := by decide +kernel
theorem dX6_kept_31 : decode cX6_kept 31 = .ok (.iconst 2, 1) := by decide +kernel
theorem dX6_kept_32 : decode cX6_kept 32 = .ok (.aload_n 0, 1) := by decide +kernel
theorem dX6_kept_33 : decode cX6_kept 33 = .ok (.getfield 19, 3) := by decide +kernel
theorem dX6_kept_36 : decode cX6_kept 36 = .ok (.invokevirtual 170, 3) := by decide +kernel
theorem dX6_kept_39 : decode cX6_kept 39 = .ok (.checkcast 169, 3) := by decide +kernel
theorem dX6_kept_42 : decode cX6_kept 42 = .ok (.aastore, 1) := by decide +kernel
theorem dX6_kept_43 : decode cX6_kept 43 = .ok (.dup, 1) := by decide +kernel
theorem dX6_kept_44 : decode cX6_kept 44 = .ok (.iconst 3, 1) := by decide +kernel
theorem dX6_kept_45 : decode cX6_kept 45 = .ok (.aload_n 0, 1) := by decide +kernel
theorem dX6_kept_46 : decode cX6_kept 46 = .ok (.getfield 22, 3) := by decide +kernel
theorem dX6_kept_49 : decode cX6_kept 49 = .ok (.invokevirtual 170, 3) := by decide +kernel
theorem dX6_kept_52 : decode cX6_kept 52 = .ok (.checkcast 169, 3) := by decide +kernel
theorem dX6_kept_55 : decode cX6_kept 55 = .ok (.aastore, 1) := by decide +kernel
theorem dX6_kept_56 : decode cX6_kept 56 = .ok (.areturn, 1) := by decide +kernel
theorem dX6_bringBack_0 : decode cX6_bringBack 0 = .ok (.iconst 4, 1) := by decide +kernel
theorem dX6_bringBack_1 : decode cX6_bringBack 1 = .ok (.anewarray 169, 3) := by decide +kernel
theorem dX6_bringBack_4 : decode cX6_bringBack 4 = .ok (.dup, 1) := by decide +kernel
theorem dX6_bringBack_5 : decode cX6_bringBack 5 = .ok (.iconst 0, 1) := by decide +kernel
theorem dX6_bringBack_6 : decode cX6_bringBack 6 = .ok (.aload_n 0, 1) := by decide +kernel
theorem dX6_bringBack_7 : decode cX6_bringBack 7 = .ok (.getfield 13, 3) := by decide +kernel
theorem dX6_bringBack_10 : decode cX6_bringBack 10 = .ok (.aastore, 1) := by decide +kernel
theorem dX6_bringBack_11 : decode cX6_bringBack 11 = .ok (.dup, 1) := by decide +kernel
theorem dX6_bringBack_12 : decode cX6_bringBack 12 = .ok (.iconst 1, 1) := by decide +kernel
theorem dX6_bringBack_13 : decode cX6_bringBack 13 = .ok (.aload_n 0, 1) := by decide +kernel
theorem dX6_bringBack_14 : decode cX6_bringBack 14 = .ok (.getfield 16, 3) := by decide +kernel
theorem dX6_bringBack_17 : decode cX6_bringBack 17 = .ok (.aastore, 1) := by decide +kernel
theorem dX6_bringBack_18 : decode cX6_bringBack 18 = .ok (.dup, 1) := by decide +kernel
theorem dX6_bringBack_19 : decode cX6_bringBack 19 = .ok (.iconst 2, 1) := by decide +kernel
theorem dX6_bringBack_20 : decode cX6_bringBack 20 = .ok (.aload_n 0, 1) := by decide +kernel
theorem dX6_bringBack_21 : decode cX6_bringBack 21 = .ok (.getfield 19, 3) := by decide +kernel
theorem dX6_bringBack_24 : decode cX6_bringBack 24 = .ok (.aastore, 1) := by decide +kernel
theorem dX6_bringBack_25 : decode cX6_bringBack 25 = .ok (.dup, 1) := by decide +kernel
theorem dX6_bringBack_26 : decode cX6_bringBack 26 = .ok (.iconst 3, 1) := by decide +kernel
theorem dX6_bringBack_27 : decode cX6_bringBack 27 = .ok (.aload_n 0, 1) := by decide +kernel
theorem dX6_bringBack_28 : decode cX6_bringBack 28 = .ok (.getfield 22, 3) := by decide +kernel
theorem dX6_bringBack_31 : decode cX6_bringBack 31 = .ok (.aastore, 1) := by decide +kernel
theorem dX6_bringBack_32 : decode cX6_bringBack 32 = .ok (.astore_n 2, 1) := by decide +kernel
theorem dX6_bringBack_33 : decode cX6_bringBack 33 = .ok (.iconst 0, 1) := by decide +kernel
theorem dX6_bringBack_34 : decode cX6_bringBack 34 = .ok (.istore_n 3, 1) := by decide +kernel
theorem dX6_bringBack_35 : decode cX6_bringBack 35 = .ok (.iload_n 3, 1) := by decide +kernel
theorem dX6_bringBack_36 : decode cX6_bringBack 36 = .ok (.iconst 4, 1) := by decide +kernel
theorem dX6_bringBack_37 : decode cX6_bringBack 37 = .ok (.if_icmp .ge 24, 3) := by decide +kernel
theorem dX6_bringBack_40 : decode cX6_bringBack 40 = .ok (.aload_n 1, 1) := by decide +kernel
theorem dX6_bringBack_41 : decode cX6_bringBack 41 = .ok (.iload_n 3, 1) := by decide +kernel
theorem dX6_bringBack_42 : decode cX6_bringBack 42 = .ok (.aaload, 1) := by decide +kernel
theorem dX6_bringBack_43 : decode cX6_bringBack 43 = .ok (.iconst 0, 1) := by decide +kernel
theorem dX6_bringBack_44 : decode cX6_bringBack 44 = .ok (.aload_n 2, 1) := by decide +kernel
theorem dX6_bringBack_45 : decode cX6_bringBack 45 = .ok (.iload_n 3, 1) := by decide +kernel
theorem dX6_bringBack_46 : decode cX6_bringBack 46 = .ok (.aaload, 1) := by decide +kernel
theorem dX6_bringBack_47 : decode cX6_bringBack 47 = .ok (.iconst 0, 1) := by decide +kernel
theorem dX6_bringBack_48 : decode cX6_bringBack 48 = .ok (.aload_n 2, 1) := by decide +kernel
theorem dX6_bringBack_49 : decode cX6_bringBack 49 = .ok (.iload_n 3, 1) := by decide +kernel
theorem dX6_bringBack_50 : decode cX6_bringBack 50 = .ok (.aaload, 1) := by decide +kernel
theorem dX6_bringBack_51 : decode cX6_bringBack 51 = .ok (.arraylength, 1) := by decide +kernel
theorem dX6_bringBack_52 : decode cX6_bringBack 52 = .ok (.invokestatic 94, 3) := by decide +kernel
theorem dX6_bringBack_55 : decode cX6_bringBack 55 = .ok (.iinc 3 1, 3) := by decide +kernel
theorem dX6_bringBack_58 : decode cX6_bringBack 58 = .ok (.goto (-23), 3) := by decide +kernel
theorem dX6_bringBack_61 : decode cX6_bringBack 61 = .ok (.return_, 1) := by decide +kernel
theorem dX6_foresee_0 : decode cX6_foresee 0 = .ok (.aload_n 0, 1) := by decide +kernel
theorem dX6_foresee_1 : decode cX6_foresee 1 = .ok (.iconst 0, 1) := by decide +kernel
theorem dX6_foresee_2 : decode cX6_foresee 2 = .ok (.putfield 38, 3) := by decide +kernel
theorem dX6_foresee_5 : decode cX6_foresee 5 = .ok (.iload_n 1, 1) := by decide +kernel
theorem dX6_foresee_6 : decode cX6_foresee 6 = .ok (.iconst 1, 1) := by decide +kernel
theorem dX6_foresee_7 : decode cX6_foresee 7 = .ok (.bipush 100, 2) := by decide +kernel
theorem dX6_foresee_9 : decode cX6_foresee 9 = .ok (.invokestatic 42, 3) := by decide +kernel
theorem dX6_foresee_12 : decode cX6_foresee 12 = .ok (.ifCond .ne 9, 3) := by decide +kernel
theorem dX6_foresee_15 : decode cX6_foresee 15 = .ok (.aload_n 0, 1) := by decide +kernel
theorem dX6_foresee_16 : decode cX6_foresee 16 = .ok (.iconst 1, 1) := by decide +kernel
theorem dX6_foresee_17 : decode cX6_foresee 17 = .ok (.invokevirtual 88, 3) := by decide +kernel
theorem dX6_foresee_20 : decode cX6_foresee 20 = .ok (.ireturn, 1) := by decide +kernel
theorem dX6_foresee_21 : decode cX6_foresee 21 = .ok (.iload_n 2, 1) := by decide +kernel
theorem dX6_foresee_22 : decode cX6_foresee 22 = .ok (.iconst 0, 1) := by decide +kernel
theorem dX6_foresee_23 : decode cX6_foresee 23 = .ok (.iconst 2, 1) := by decide +kernel
theorem dX6_foresee_24 : decode cX6_foresee 24 = .ok (.invokestatic 42, 3) := by decide +kernel
theorem dX6_foresee_27 : decode cX6_foresee 27 = .ok (.ifCond .ne 9, 3) := by decide +kernel
theorem dX6_foresee_30 : decode cX6_foresee 30 = .ok (.aload_n 0, 1) := by decide +kernel
theorem dX6_foresee_31 : decode cX6_foresee 31 = .ok (.iconst 2, 1) := by decide +kernel
theorem dX6_foresee_32 : decode cX6_foresee 32 = .ok (.invokevirtual 88, 3) := by decide +kernel
theorem dX6_foresee_35 : decode cX6_foresee 35 = .ok (.ireturn, 1) := by decide +kernel
theorem dX6_foresee_36 : decode cX6_foresee 36 = .ok (.aload_n 0, 1) := by decide +kernel
theorem dX6_foresee_37 : decode cX6_foresee 37 = .ok (.invokevirtual 174, 3) := by decide +kernel
theorem dX6_foresee_40 : decode cX6_foresee 40 = .ok (.astore_n 3, 1) := by decide +kernel
theorem dX6_foresee_41 : decode cX6_foresee 41 = .ok (.iconst 0, 1) := by decide +kernel
theorem dX6_foresee_42 : decode cX6_foresee 42 = .ok (.istore 4, 2) := by decide +kernel
theorem dX6_foresee_44 : decode cX6_foresee 44 = .ok (.iload 4, 2) := by decide +kernel
theorem dX6_foresee_46 : decode cX6_foresee 46 = .ok (.iload_n 1, 1) := by decide +kernel
theorem dX6_foresee_47 : decode cX6_foresee 47 = .ok (.if_icmp .ge 14, 3) := by decide +kernel
theorem dX6_foresee_50 : decode cX6_foresee 50 = .ok (.aload_n 0, 1) := by decide +kernel
theorem dX6_foresee_51 : decode cX6_foresee 51 = .ok (.invokevirtual 163, 3) := by decide +kernel
theorem dX6_foresee_54 : decode cX6_foresee 54 = .ok (.pop, 1) := by decide +kernel
theorem dX6_foresee_55 : decode cX6_foresee 55 = .ok (.iinc 4 1, 3) := by decide +kernel
theorem dX6_foresee_58 : decode cX6_foresee 58 = .ok (.goto (-14), 3) := by decide +kernel
theorem dX6_foresee_61 : decode cX6_foresee 61 = .ok (.iload_n 2, 1) := by decide +kernel
theorem dX6_foresee_62 : decode cX6_foresee 62 = .ok (.ifCond .ne 11, 3) := by decide +kernel
theorem dX6_foresee_65 : decode cX6_foresee 65 = .ok (.aload_n 0, 1) := by decide +kernel
theorem dX6_foresee_66 : decode cX6_foresee 66 = .ok (.iconst 1, 1) := by decide +kernel
theorem dX6_foresee_67 : decode cX6_foresee 67 = .ok (.invokevirtual 107, 3) := by decide +kernel
theorem dX6_foresee_70 : decode cX6_foresee 70 = .ok (.goto 22, 3) := by decide +kernel
theorem dX6_foresee_73 : decode cX6_foresee 73 = .ok (.iload_n 2, 1) := by decide +kernel
theorem dX6_foresee_74 : decode cX6_foresee 74 = .ok (.iconst 1, 1) := by decide +kernel
theorem dX6_foresee_75 : decode cX6_foresee 75 = .ok (.if_icmp .ne 11, 3) := by decide +kernel
theorem dX6_foresee_78 : decode cX6_foresee 78 = .ok (.aload_n 0, 1) := by decide +kernel
theorem dX6_foresee_79 : decode cX6_foresee 79 = .ok (.iconst 3, 1) := by decide +kernel
theorem dX6_foresee_80 : decode cX6_foresee 80 = .ok (.invokevirtual 107, 3) := by decide +kernel
theorem dX6_foresee_83 : decode cX6_foresee 83 = .ok (.goto 9, 3) := by decide +kernel
theorem dX6_foresee_86 : decode cX6_foresee 86 = .ok (.aload_n 0, 1) := by decide +kernel
theorem dX6_foresee_87 : decode cX6_foresee 87 = .ok (.bipush 8, 2) := by decide +kernel
theorem dX6_foresee_89 : decode cX6_foresee 89 = .ok (.invokevirtual 166, 3) := by decide +kernel
theorem dX6_foresee_92 : decode cX6_foresee 92 = .ok (.istore 4, 2) := by decide +kernel
theorem dX6_foresee_94 : decode cX6_foresee 94 = .ok (.aload_n 0, 1) := by decide +kernel
theorem dX6_foresee_95 : decode cX6_foresee 95 = .ok (.aload_n 3, 1) := by decide +kernel
theorem dX6_foresee_96 : decode cX6_foresee 96 = .ok (.invokevirtual 178, 3) := by decide +kernel
theorem dX6_foresee_99 : decode cX6_foresee 99 = .ok (.iload 4, 2) := by decide +kernel
theorem dX6_foresee_101 : decode cX6_foresee 101 = .ok (.ireturn, 1) := by decide +kernel
theorem dX6_lasts_0 : decode cX6_lasts 0 = .ok (.aload_n 0, 1) := by decide +kernel
theorem dX6_lasts_1 : decode cX6_lasts 1 = .ok (.iconst 0, 1) := by decide +kernel
theorem dX6_lasts_2 : decode cX6_lasts 2 = .ok (.putfield 38, 3) := by decide +kernel
theorem dX6_lasts_5 : decode cX6_lasts 5 = .ok (.aload_n 0, 1) := by decide +kernel
theorem dX6_lasts_6 : decode cX6_lasts 6 = .ok (.invokevirtual 174, 3) := by decide +kernel
theorem dX6_lasts_9 : decode cX6_lasts 9 = .ok (.astore_n 1, 1) := by decide +kernel
theorem dX6_lasts_10 : decode cX6_lasts 10 = .ok (.iconst 0, 1) := by decide +kernel
theorem dX6_lasts_11 : decode cX6_lasts 11 = .ok (.istore_n 2, 1) := by decide +kernel
theorem dX6_lasts_12 : decode cX6_lasts 12 = .ok (.iload_n 2, 1) := by decide +kernel
theorem dX6_lasts_13 : decode cX6_lasts 13 = .ok (.sipush 200, 3) := by decide +kernel
theorem dX6_lasts_16 : decode cX6_lasts 16 = .ok (.if_icmp .ge 22, 3) := by decide +kernel
theorem dX6_lasts_19 : decode cX6_lasts 19 = .ok (.aload_n 0, 1) := by decide +kernel
theorem dX6_lasts_20 : decode cX6_lasts 20 = .ok (.iconst 1, 1) := by decide +kernel
theorem dX6_lasts_21 : decode cX6_lasts 21 = .ok (.invokevirtual 107, 3) := by decide +kernel
theorem dX6_lasts_24 : decode cX6_lasts 24 = .ok (.ifCond .le 14, 3) := by decide +kernel
theorem dX6_lasts_27 : decode cX6_lasts 27 = .ok (.aload_n 0, 1) := by decide +kernel
theorem dX6_lasts_28 : decode cX6_lasts 28 = .ok (.invokevirtual 163, 3) := by decide +kernel
theorem dX6_lasts_31 : decode cX6_lasts 31 = .ok (.pop, 1) := by decide +kernel
theorem dX6_lasts_32 : decode cX6_lasts 32 = .ok (.iinc 2 1, 3) := by decide +kernel
theorem dX6_lasts_35 : decode cX6_lasts 35 = .ok (.goto (-23), 3) := by decide +kernel
theorem dX6_lasts_38 : decode cX6_lasts 38 = .ok (.aload_n 0, 1) := by decide +kernel
theorem dX6_lasts_39 : decode cX6_lasts 39 = .ok (.iconst 1, 1) := by decide +kernel
theorem dX6_lasts_40 : decode cX6_lasts 40 = .ok (.invokevirtual 107, 3) := by decide +kernel
theorem dX6_lasts_43 : decode cX6_lasts 43 = .ok (.ifCond .le 5, 3) := by decide +kernel
theorem dX6_lasts_46 : decode cX6_lasts 46 = .ok (.iconst (-1), 1) := by decide +kernel
theorem dX6_lasts_47 : decode cX6_lasts 47 = .ok (.istore_n 2, 1) := by decide +kernel
theorem dX6_lasts_48 : decode cX6_lasts 48 = .ok (.aload_n 0, 1) := by decide +kernel
theorem dX6_lasts_49 : decode cX6_lasts 49 = .ok (.aload_n 1, 1) := by decide +kernel
theorem dX6_lasts_50 : decode cX6_lasts 50 = .ok (.invokevirtual 178, 3) := by decide +kernel
theorem dX6_lasts_53 : decode cX6_lasts 53 = .ok (.iload_n 2, 1) := by decide +kernel
theorem dX6_lasts_54 : decode cX6_lasts 54 = .ok (.ireturn, 1) := by decide +kernel
theorem dX6_weakest_0 : decode cX6_weakest 0 = .ok (.aload_n 0, 1) := by decide +kernel
theorem dX6_weakest_1 : decode cX6_weakest 1 = .ok (.iconst 0, 1) := by decide +kernel
theorem dX6_weakest_2 : decode cX6_weakest 2 = .ok (.putfield 38, 3) := by decide +kernel
theorem dX6_weakest_5 : decode cX6_weakest 5 = .ok (.aload_n 0, 1) := by decide +kernel
theorem dX6_weakest_6 : decode cX6_weakest 6 = .ok (.iload_n 1, 1) := by decide +kernel
theorem dX6_weakest_7 : decode cX6_weakest 7 = .ok (.invokevirtual 116, 3) := by decide +kernel
theorem dX6_weakest_10 : decode cX6_weakest 10 = .ok (.ifCond .ne 9, 3) := by decide +kernel
theorem dX6_weakest_13 : decode cX6_weakest 13 = .ok (.aload_n 0, 1) := by decide +kernel
theorem dX6_weakest_14 : decode cX6_weakest 14 = .ok (.iconst 1, 1) := by decide +kernel
theorem dX6_weakest_15 : decode cX6_weakest 15 = .ok (.invokevirtual 88, 3) := by decide +kernel
theorem dX6_weakest_18 : decode cX6_weakest 18 = .ok (.ireturn, 1) := by decide +kernel
theorem dX6_weakest_19 : decode cX6_weakest 19 = .ok (.iconst (-1), 1) := by decide +kernel
theorem dX6_weakest_20 : decode cX6_weakest 20 = .ok (.istore_n 2, 1) := by decide +kernel
theorem dX6_weakest_21 : decode cX6_weakest 21 = .ok (.iconst 0, 1) := by decide +kernel
theorem dX6_weakest_22 : decode cX6_weakest 22 = .ok (.istore_n 3, 1) := by decide +kernel
theorem dX6_weakest_23 : decode cX6_weakest 23 = .ok (.iload_n 3, 1) := by decide +kernel
theorem dX6_weakest_24 : decode cX6_weakest 24 = .ok (.aload_n 0, 1) := by decide +kernel
theorem dX6_weakest_25 : decode cX6_weakest 25 = .ok (.getfield 62, 3) := by decide +kernel
theorem dX6_weakest_28 : decode cX6_weakest 28 = .ok (.if_icmp .ge 38, 3) := by decide +kernel
theorem dX6_weakest_31 : decode cX6_weakest 31 = .ok (.aload_n 0, 1) := by decide +kernel
theorem dX6_weakest_32 : decode cX6_weakest 32 = .ok (.iload_n 3, 1) := by decide +kernel
theorem dX6_weakest_33 : decode cX6_weakest 33 = .ok (.iload_n 1, 1) := by decide +kernel
theorem dX6_weakest_34 : decode cX6_weakest 34 = .ok (.invokevirtual 131, 3) := by decide +kernel
theorem dX6_weakest_37 : decode cX6_weakest 37 = .ok (.ifCond .eq 23, 3) := by decide +kernel
theorem dX6_weakest_40 : decode cX6_weakest 40 = .ok (.iload_n 2, 1) := by decide +kernel
theorem dX6_weakest_41 : decode cX6_weakest 41 = .ok (.iconst (-1), 1) := by decide +kernel
theorem dX6_weakest_42 : decode cX6_weakest 42 = .ok (.if_icmp .eq 16, 3) := by decide +kernel
theorem dX6_weakest_45 : decode cX6_weakest 45 = .ok (.aload_n 0, 1) := by decide +kernel
theorem dX6_weakest_46 : decode cX6_weakest 46 = .ok (.iload_n 3, 1) := by decide +kernel
theorem dX6_weakest_47 : decode cX6_weakest 47 = .ok (.invokevirtual 137, 3) := by decide +kernel
theorem dX6_weakest_50 : decode cX6_weakest 50 = .ok (.aload_n 0, 1) := by decide +kernel
theorem dX6_weakest_51 : decode cX6_weakest 51 = .ok (.iload_n 2, 1) := by decide +kernel
theorem dX6_weakest_52 : decode cX6_weakest 52 = .ok (.invokevirtual 137, 3) := by decide +kernel
theorem dX6_weakest_55 : decode cX6_weakest 55 = .ok (.if_icmp .ge 5, 3) := by decide +kernel
theorem dX6_weakest_58 : decode cX6_weakest 58 = .ok (.iload_n 3, 1) := by decide +kernel
theorem dX6_weakest_59 : decode cX6_weakest 59 = .ok (.istore_n 2, 1) := by decide +kernel
theorem dX6_weakest_60 : decode cX6_weakest 60 = .ok (.iinc 3 1, 3) := by decide +kernel
theorem dX6_weakest_63 : decode cX6_weakest 63 = .ok (.goto (-40), 3) := by decide +kernel
theorem dX6_weakest_66 : decode cX6_weakest 66 = .ok (.iload_n 2, 1) := by decide +kernel
theorem dX6_weakest_67 : decode cX6_weakest 67 = .ok (.ireturn, 1) := by decide +kernel
theorem dX6_advise_0 : decode cX6_advise 0 = .ok (.aload_n 0, 1) := by decide +kernel
theorem dX6_advise_1 : decode cX6_advise 1 = .ok (.iconst 0, 1) := by decide +kernel
theorem dX6_advise_2 : decode cX6_advise 2 = .ok (.putfield 38, 3) := by decide +kernel
theorem dX6_advise_5 : decode cX6_advise 5 = .ok (.aload_n 0, 1) := by decide +kernel
theorem dX6_advise_6 : decode cX6_advise 6 = .ok (.iload_n 1, 1) := by decide +kernel
theorem dX6_advise_7 : decode cX6_advise 7 = .ok (.invokevirtual 116, 3) := by decide +kernel
theorem dX6_advise_10 : decode cX6_advise 10 = .ok (.ifCond .ne 9, 3) := by decide +kernel
theorem dX6_advise_13 : decode cX6_advise 13 = .ok (.aload_n 0, 1) := by decide +kernel
theorem dX6_advise_14 : decode cX6_advise 14 = .ok (.iconst 1, 1) := by decide +kernel
theorem dX6_advise_15 : decode cX6_advise 15 = .ok (.invokevirtual 88, 3) := by decide +kernel
theorem dX6_advise_18 : decode cX6_advise 18 = .ok (.ireturn, 1) := by decide +kernel
theorem dX6_advise_19 : decode cX6_advise 19 = .ok (.iload_n 2, 1) := by decide +kernel
theorem dX6_advise_20 : decode cX6_advise 20 = .ok (.iconst 1, 1) := by decide +kernel
theorem dX6_advise_21 : decode cX6_advise 21 = .ok (.bipush 50, 2) := by decide +kernel
theorem dX6_advise_23 : decode cX6_advise 23 = .ok (.invokestatic 42, 3) := by decide +kernel
theorem dX6_advise_26 : decode cX6_advise 26 = .ok (.ifCond .ne 9, 3) := by decide +kernel
theorem dX6_advise_29 : decode cX6_advise 29 = .ok (.aload_n 0, 1) := by decide +kernel
theorem dX6_advise_30 : decode cX6_advise 30 = .ok (.iconst 2, 1) := by decide +kernel
theorem dX6_advise_31 : decode cX6_advise 31 = .ok (.invokevirtual 88, 3) := by decide +kernel
theorem dX6_advise_34 : decode cX6_advise 34 = .ok (.ireturn, 1) := by decide +kernel
theorem dX6_advise_35 : decode cX6_advise 35 = .ok (.iconst (-1), 1) := by decide +kernel
theorem dX6_advise_36 : decode cX6_advise 36 = .ok (.istore_n 3, 1) := by decide +kernel
theorem dX6_advise_37 : decode cX6_advise 37 = .ok (.bipush 31, 2) := by decide +kernel
theorem dX6_advise_39 : decode cX6_advise 39 = .ok (.istore 4, 2) := by decide +kernel
theorem dX6_advise_41 : decode cX6_advise 41 = .ok (.aload_n 0, 1) := by decide +kernel
theorem dX6_advise_42 : decode cX6_advise 42 = .ok (.invokevirtual 174, 3) := by decide +kernel
theorem dX6_advise_45 : decode cX6_advise 45 = .ok (.astore 5, 2) := by decide +kernel
theorem dX6_advise_47 : decode cX6_advise 47 = .ok (.iconst 0, 1) := by decide +kernel
theorem dX6_advise_48 : decode cX6_advise 48 = .ok (.istore 6, 2) := by decide +kernel
theorem dX6_advise_50 : decode cX6_advise 50 = .ok (.iload 6, 2) := by decide +kernel
theorem dX6_advise_52 : decode cX6_advise 52 = .ok (.aload_n 0, 1) := by decide +kernel
theorem dX6_advise_53 : decode cX6_advise 53 = .ok (.getfield 59, 3) := by decide +kernel
theorem dX6_advise_56 : decode cX6_advise 56 = .ok (.if_icmp .ge 114, 3) := by decide +kernel
theorem dX6_advise_59 : decode cX6_advise 59 = .ok (.aload_n 0, 1) := by decide +kernel
theorem dX6_advise_60 : decode cX6_advise 60 = .ok (.iload_n 1, 1) := by decide +kernel
theorem dX6_advise_61 : decode cX6_advise 61 = .ok (.invokevirtual 128, 3) := by decide +kernel
theorem dX6_advise_64 : decode cX6_advise 64 = .ok (.ifCond .eq 106, 3) := by decide +kernel
theorem dX6_advise_67 : decode cX6_advise 67 = .ok (.aload_n 0, 1) := by decide +kernel
theorem dX6_advise_68 : decode cX6_advise 68 = .ok (.iload 6, 2) := by decide +kernel
theorem dX6_advise_70 : decode cX6_advise 70 = .ok (.iconst 3, 1) := by decide +kernel
theorem dX6_advise_71 : decode cX6_advise 71 = .ok (.invokevirtual 65, 3) := by decide +kernel
theorem dX6_advise_74 : decode cX6_advise 74 = .ok (.iconst 1, 1) := by decide +kernel
theorem dX6_advise_75 : decode cX6_advise 75 = .ok (.if_icmp .ne 89, 3) := by decide +kernel
theorem dX6_advise_78 : decode cX6_advise 78 = .ok (.aload_n 0, 1) := by decide +kernel
theorem dX6_advise_79 : decode cX6_advise 79 = .ok (.iload_n 1, 1) := by decide +kernel
theorem dX6_advise_80 : decode cX6_advise 80 = .ok (.iconst 0, 1) := by decide +kernel
theorem dX6_advise_81 : decode cX6_advise 81 = .ok (.invokevirtual 81, 3) := by decide +kernel
theorem dX6_advise_84 : decode cX6_advise 84 = .ok (.aload_n 0, 1) := by decide +kernel
theorem dX6_advise_85 : decode cX6_advise 85 = .ok (.iload 6, 2) := by decide +kernel
theorem dX6_advise_87 : decode cX6_advise 87 = .ok (.iconst 0, 1) := by decide +kernel
theorem dX6_advise_88 : decode cX6_advise 88 = .ok (.invokevirtual 65, 3) := by decide +kernel
theorem dX6_advise_91 : decode cX6_advise 91 = .ok (.invokestatic 125, 3) := by decide +kernel
theorem dX6_advise_94 : decode cX6_advise 94 = .ok (.bipush 6, 2) := by decide +kernel
theorem dX6_advise_96 : decode cX6_advise 96 = .ok (.if_icmp .le 6, 3) := by decide +kernel
theorem dX6_advise_99 : decode cX6_advise 99 = .ok (.goto 65, 3) := by decide +kernel
theorem dX6_advise_102 : decode cX6_advise 102 = .ok (.aload_n 0, 1) := by decide +kernel
theorem dX6_advise_103 : decode cX6_advise 103 = .ok (.iload_n 1, 1) := by decide +kernel
theorem dX6_advise_104 : decode cX6_advise 104 = .ok (.bipush 7, 2) := by decide +kernel
theorem dX6_advise_106 : decode cX6_advise 106 = .ok (.bipush 100, 2) := by decide +kernel
theorem dX6_advise_108 : decode cX6_advise 108 = .ok (.iload 6, 2) := by decide +kernel
theorem dX6_advise_110 : decode cX6_advise 110 = .ok (.iadd, 1) := by decide +kernel
theorem dX6_advise_111 : decode cX6_advise 111 = .ok (.invokevirtual 119, 3) := by decide +kernel
theorem dX6_advise_114 : decode cX6_advise 114 = .ok (.iconst 0, 1) := by decide +kernel
theorem dX6_advise_115 : decode cX6_advise 115 = .ok (.istore 7, 2) := by decide +kernel
theorem dX6_advise_117 : decode cX6_advise 117 = .ok (.iload 7, 2) := by decide +kernel
theorem dX6_advise_119 : decode cX6_advise 119 = .ok (.iload_n 2, 1) := by decide +kernel
theorem dX6_advise_120 : decode cX6_advise 120 = .ok (.if_icmp .ge 14, 3) := by decide +kernel
theorem dX6_advise_123 : decode cX6_advise 123 = .ok (.aload_n 0, 1) := by decide +kernel
theorem dX6_advise_124 : decode cX6_advise 124 = .ok (.invokevirtual 163, 3) := by decide +kernel
theorem dX6_advise_127 : decode cX6_advise 127 = .ok (.pop, 1) := by decide +kernel
theorem dX6_advise_128 : decode cX6_advise 128 = .ok (.iinc 7 1, 3) := by decide +kernel
theorem dX6_advise_131 : decode cX6_advise 131 = .ok (.goto (-14), 3) := by decide +kernel
theorem dX6_advise_134 : decode cX6_advise 134 = .ok (.aload_n 0, 1) := by decide +kernel
theorem dX6_advise_135 : decode cX6_advise 135 = .ok (.iconst 3, 1) := by decide +kernel
theorem dX6_advise_136 : decode cX6_advise 136 = .ok (.invokevirtual 107, 3) := by decide +kernel
theorem dX6_advise_139 : decode cX6_advise 139 = .ok (.istore 7, 2) := by decide +kernel
theorem dX6_advise_141 : decode cX6_advise 141 = .ok (.aload_n 0, 1) := by decide +kernel
theorem dX6_advise_142 : decode cX6_advise 142 = .ok (.aload 5, 2) := by decide +kernel
theorem dX6_advise_144 : decode cX6_advise 144 = .ok (.invokevirtual 178, 3) := by decide +kernel
theorem dX6_advise_147 : decode cX6_advise 147 = .ok (.iload 7, 2) := by decide +kernel
theorem dX6_advise_149 : decode cX6_advise 149 = .ok (.iload 4, 2) := by decide +kernel
theorem dX6_advise_151 : decode cX6_advise 151 = .ok (.if_icmp .lt 6, 3) := by decide +kernel
theorem dX6_advise_154 : decode cX6_advise 154 = .ok (.goto 10, 3) := by decide +kernel
theorem dX6_advise_157 : decode cX6_advise 157 = .ok (.iload 6, 2) := by decide +kernel
theorem dX6_advise_159 : decode cX6_advise 159 = .ok (.istore_n 3, 1) := by decide +kernel
theorem dX6_advise_160 : decode cX6_advise 160 = .ok (.iload 7, 2) := by decide +kernel
theorem dX6_advise_162 : decode cX6_advise 162 = .ok (.istore 4, 2) := by decide +kernel
theorem dX6_advise_164 : decode cX6_advise 164 = .ok (.iinc 6 1, 3) := by decide +kernel
theorem dX6_advise_167 : decode cX6_advise 167 = .ok (.goto (-117), 3) := by decide +kernel
theorem dX6_advise_170 : decode cX6_advise 170 = .ok (.iload_n 3, 1) := by decide +kernel
theorem dX6_advise_171 : decode cX6_advise 171 = .ok (.ireturn, 1) := by decide +kernel
theorem dX6_walls_0 : decode cX6_walls 0 = .ok (.aload_n 0, 1) := by decide +kernel
theorem dX6_walls_1 : decode cX6_walls 1 = .ok (.iconst 0, 1) := by decide +kernel
theorem dX6_walls_2 : decode cX6_walls 2 = .ok (.putfield 38, 3) := by decide +kernel
theorem dX6_walls_5 : decode cX6_walls 5 = .ok (.iconst 0, 1) := by decide +kernel
theorem dX6_walls_6 : decode cX6_walls 6 = .ok (.istore_n 1, 1) := by decide +kernel
theorem dX6_walls_7 : decode cX6_walls 7 = .ok (.iconst 0, 1) := by decide +kernel
theorem dX6_walls_8 : decode cX6_walls 8 = .ok (.istore_n 2, 1) := by decide +kernel
theorem dX6_walls_9 : decode cX6_walls 9 = .ok (.iload_n 2, 1) := by decide +kernel
theorem dX6_walls_10 : decode cX6_walls 10 = .ok (.aload_n 0, 1) := by decide +kernel
theorem dX6_walls_11 : decode cX6_walls 11 = .ok (.getfield 59, 3) := by decide +kernel
theorem dX6_walls_14 : decode cX6_walls 14 = .ok (.if_icmp .ge 18, 3) := by decide +kernel
theorem dX6_walls_17 : decode cX6_walls 17 = .ok (.iload_n 1, 1) := by decide +kernel
theorem dX6_walls_18 : decode cX6_walls 18 = .ok (.aload_n 0, 1) := by decide +kernel
theorem dX6_walls_19 : decode cX6_walls 19 = .ok (.iload_n 2, 1) := by decide +kernel
theorem dX6_walls_20 : decode cX6_walls 20 = .ok (.iconst 2, 1) := by decide +kernel
theorem dX6_walls_21 : decode cX6_walls 21 = .ok (.invokevirtual 65, 3) := by decide +kernel
theorem dX6_walls_24 : decode cX6_walls 24 = .ok (.iadd, 1) := by decide +kernel
theorem dX6_walls_25 : decode cX6_walls 25 = .ok (.istore_n 1, 1) := by decide +kernel
theorem dX6_walls_26 : decode cX6_walls 26 = .ok (.iinc 2 1, 3) := by decide +kernel
theorem dX6_walls_29 : decode cX6_walls 29 = .ok (.goto (-20), 3) := by decide +kernel
theorem dX6_walls_32 : decode cX6_walls 32 = .ok (.aload_n 0, 1) := by decide +kernel
theorem dX6_walls_33 : decode cX6_walls 33 = .ok (.getfield 59, 3) := by decide +kernel
theorem dX6_walls_36 : decode cX6_walls 36 = .ok (.ifCond .ne 7, 3) := by decide +kernel
theorem dX6_walls_39 : decode cX6_walls 39 = .ok (.dconst 0, 1) := by decide +kernel
theorem dX6_walls_40 : decode cX6_walls 40 = .ok (.goto 11, 3) := by decide +kernel
theorem dX6_walls_43 : decode cX6_walls 43 = .ok (.iload_n 1, 1) := by decide +kernel
theorem dX6_walls_44 : decode cX6_walls 44 = .ok (.i2d, 1) := by decide +kernel
theorem dX6_walls_45 : decode cX6_walls 45 = .ok (.aload_n 0, 1) := by decide +kernel
theorem dX6_walls_46 : decode cX6_walls 46 = .ok (.getfield 59, 3) := by decide +kernel
theorem dX6_walls_49 : decode cX6_walls 49 = .ok (.i2d, 1) := by decide +kernel
theorem dX6_walls_50 : decode cX6_walls 50 = .ok (.ddiv, 1) := by decide +kernel
theorem dX6_walls_51 : decode cX6_walls 51 = .ok (.dreturn, 1) := by decide +kernel
theorem dX6_digest_0 : decode cX6_digest 0 = .ok (.aload_n 0, 1) := by decide +kernel
theorem dX6_digest_1 : decode cX6_digest 1 = .ok (.iconst 0, 1) := by decide +kernel
theorem dX6_digest_2 : decode cX6_digest 2 = .ok (.putfield 38, 3) := by decide +kernel
theorem dX6_digest_5 : decode cX6_digest 5 = .ok (.ldc2_w 182, 3) := by decide +kernel
theorem dX6_digest_8 : decode cX6_digest 8 = .ok (.lstore_n 1, 1) := by decide +kernel
theorem dX6_digest_9 : decode cX6_digest 9 = .ok (.iconst 0, 1) := by decide +kernel
theorem dX6_digest_10 : decode cX6_digest 10 = .ok (.istore_n 3, 1) := by decide +kernel
theorem dX6_digest_11 : decode cX6_digest 11 = .ok (.iload_n 3, 1) := by decide +kernel
theorem dX6_digest_12 : decode cX6_digest 12 = .ok (.bipush 10, 2) := by decide +kernel
theorem dX6_digest_14 : decode cX6_digest 14 = .ok (.if_icmp .ge 22, 3) := by decide +kernel
theorem dX6_digest_17 : decode cX6_digest 17 = .ok (.lload_n 1, 1) := by decide +kernel
theorem dX6_digest_18 : decode cX6_digest 18 = .ok (.ldc2_w 184, 3) := by decide +kernel
theorem dX6_digest_21 : decode cX6_digest 21 = .ok (.lmul, 1) := by decide +kernel
theorem dX6_digest_22 : decode cX6_digest 22 = .ok (.aload_n 0, 1) := by decide +kernel
theorem dX6_digest_23 : decode cX6_digest 23 = .ok (.iload_n 3, 1) := by decide +kernel
theorem dX6_digest_24 : decode cX6_digest 24 = .ok (.invokevirtual 166, 3) := by decide +kernel
theorem dX6_digest_27 : decode cX6_digest 27 = .ok (.i2l, 1) := by decide +kernel
theorem dX6_digest_28 : decode cX6_digest 28 = .ok (.ladd, 1) := by decide +kernel
theorem dX6_digest_29 : decode cX6_digest 29 = .ok (.lstore_n 1, 1) := by decide +kernel
theorem dX6_digest_30 : decode cX6_digest 30 = .ok (.iinc 3 1, 3) := by decide +kernel
theorem dX6_digest_33 : decode cX6_digest 33 = .ok (.goto (-22), 3) := by decide +kernel
theorem dX6_digest_36 : decode cX6_digest 36 = .ok (.iconst 0, 1) := by decide +kernel
theorem dX6_digest_37 : decode cX6_digest 37 = .ok (.istore_n 3, 1) := by decide +kernel
theorem dX6_digest_38 : decode cX6_digest 38 = .ok (.iload_n 3, 1) := by decide +kernel
theorem dX6_digest_39 : decode cX6_digest 39 = .ok (.aload_n 0, 1) := by decide +kernel
theorem dX6_digest_40 : decode cX6_digest 40 = .ok (.getfield 59, 3) := by decide +kernel
theorem dX6_digest_43 : decode cX6_digest 43 = .ok (.if_icmp .ge 40, 3) := by decide +kernel
theorem dX6_digest_46 : decode cX6_digest 46 = .ok (.iconst 0, 1) := by decide +kernel
theorem dX6_digest_47 : decode cX6_digest 47 = .ok (.istore 4, 2) := by decide +kernel
theorem dX6_digest_49 : decode cX6_digest 49 = .ok (.iload 4, 2) := by decide +kernel
theorem dX6_digest_51 : decode cX6_digest 51 = .ok (.bipush 7, 2) := by decide +kernel
theorem dX6_digest_53 : decode cX6_digest 53 = .ok (.if_icmp .ge 24, 3) := by decide +kernel
theorem dX6_digest_56 : decode cX6_digest 56 = .ok (.lload_n 1, 1) := by decide +kernel
theorem dX6_digest_57 : decode cX6_digest 57 = .ok (.ldc2_w 184, 3) := by decide +kernel
theorem dX6_digest_60 : decode cX6_digest 60 = .ok (.lmul, 1) := by decide +kernel
theorem dX6_digest_61 : decode cX6_digest 61 = .ok (.aload_n 0, 1) := by decide +kernel
theorem dX6_digest_62 : decode cX6_digest 62 = .ok (.iload_n 3, 1) := by decide +kernel
theorem dX6_digest_63 : decode cX6_digest 63 = .ok (.iload 4, 2) := by decide +kernel
theorem dX6_digest_65 : decode cX6_digest 65 = .ok (.invokevirtual 65, 3) := by decide +kernel
theorem dX6_digest_68 : decode cX6_digest 68 = .ok (.i2l, 1) := by decide +kernel
theorem dX6_digest_69 : decode cX6_digest 69 = .ok (.ladd, 1) := by decide +kernel
theorem dX6_digest_70 : decode cX6_digest 70 = .ok (.lstore_n 1, 1) := by decide +kernel
theorem dX6_digest_71 : decode cX6_digest 71 = .ok (.iinc 4 1, 3) := by decide +kernel
theorem dX6_digest_74 : decode cX6_digest 74 = .ok (.goto (-25), 3) := by decide +kernel
theorem dX6_digest_77 : decode cX6_digest 77 = .ok (.iinc 3 1, 3) := by decide +kernel
theorem dX6_digest_80 : decode cX6_digest 80 = .ok (.goto (-42), 3) := by decide +kernel
theorem dX6_digest_83 : decode cX6_digest 83 = .ok (.iconst 0, 1) := by decide +kernel
theorem dX6_digest_84 : decode cX6_digest 84 = .ok (.istore_n 3, 1) := by decide +kernel
theorem dX6_digest_85 : decode cX6_digest 85 = .ok (.iload_n 3, 1) := by decide +kernel
theorem dX6_digest_86 : decode cX6_digest 86 = .ok (.aload_n 0, 1) := by decide +kernel
theorem dX6_digest_87 : decode cX6_digest 87 = .ok (.getfield 68, 3) := by decide +kernel
theorem dX6_digest_90 : decode cX6_digest 90 = .ok (.if_icmp .ge 35, 3) := by decide +kernel
theorem dX6_digest_93 : decode cX6_digest 93 = .ok (.lload_n 1, 1) := by decide +kernel
theorem dX6_digest_94 : decode cX6_digest 94 = .ok (.ldc2_w 184, 3) := by decide +kernel
theorem dX6_digest_97 : decode cX6_digest 97 = .ok (.lmul, 1) := by decide +kernel
theorem dX6_digest_98 : decode cX6_digest 98 = .ok (.aload_n 0, 1) := by decide +kernel
theorem dX6_digest_99 : decode cX6_digest 99 = .ok (.getfield 9, 3) := by decide +kernel
theorem dX6_digest_102 : decode cX6_digest 102 = .ok (.iload_n 3, 1) := by decide +kernel
theorem dX6_digest_103 : decode cX6_digest 103 = .ok (.iaload, 1) := by decide +kernel
theorem dX6_digest_104 : decode cX6_digest 104 = .ok (.i2l, 1) := by decide +kernel
theorem dX6_digest_105 : decode cX6_digest 105 = .ok (.ladd, 1) := by decide +kernel
theorem dX6_digest_106 : decode cX6_digest 106 = .ok (.ldc2_w 184, 3) := by decide +kernel
theorem dX6_digest_109 : decode cX6_digest 109 = .ok (.lmul, 1) := by decide +kernel
theorem dX6_digest_110 : decode cX6_digest 110 = .ok (.aload_n 0, 1) := by decide +kernel
theorem dX6_digest_111 : decode cX6_digest 111 = .ok (.getfield 13, 3) := by decide +kernel
theorem dX6_digest_114 : decode cX6_digest 114 = .ok (.iload_n 3, 1) := by decide +kernel
theorem dX6_digest_115 : decode cX6_digest 115 = .ok (.iaload, 1) := by decide +kernel
theorem dX6_digest_116 : decode cX6_digest 116 = .ok (.i2l, 1) := by decide +kernel
theorem dX6_digest_117 : decode cX6_digest 117 = .ok (.ladd, 1) := by decide +kernel
theorem dX6_digest_118 : decode cX6_digest 118 = .ok (.lstore_n 1, 1) := by decide +kernel
theorem dX6_digest_119 : decode cX6_digest 119 = .ok (.iinc 3 1, 3) := by decide +kernel
theorem dX6_digest_122 : decode cX6_digest 122 = .ok (.goto (-37), 3) := by decide +kernel
theorem dX6_digest_125 : decode cX6_digest 125 = .ok (.iconst 0, 1) := by decide +kernel
theorem dX6_digest_126 : decode cX6_digest 126 = .ok (.istore_n 3, 1) := by decide +kernel
theorem dX6_digest_127 : decode cX6_digest 127 = .ok (.iload_n 3, 1) := by decide +kernel
theorem dX6_digest_128 : decode cX6_digest 128 = .ok (.aload_n 0, 1) := by decide +kernel
theorem dX6_digest_129 : decode cX6_digest 129 = .ok (.getfield 62, 3) := by decide +kernel
theorem dX6_digest_132 : decode cX6_digest 132 = .ok (.if_icmp .ge 40, 3) := by decide +kernel
theorem dX6_digest_135 : decode cX6_digest 135 = .ok (.iconst 0, 1) := by decide +kernel
theorem dX6_digest_136 : decode cX6_digest 136 = .ok (.istore 4, 2) := by decide +kernel
theorem dX6_digest_138 : decode cX6_digest 138 = .ok (.iload 4, 2) := by decide +kernel
theorem dX6_digest_140 : decode cX6_digest 140 = .ok (.bipush 10, 2) := by decide +kernel
theorem dX6_digest_142 : decode cX6_digest 142 = .ok (.if_icmp .ge 24, 3) := by decide +kernel
theorem dX6_digest_145 : decode cX6_digest 145 = .ok (.lload_n 1, 1) := by decide +kernel
theorem dX6_digest_146 : decode cX6_digest 146 = .ok (.ldc2_w 184, 3) := by decide +kernel
theorem dX6_digest_149 : decode cX6_digest 149 = .ok (.lmul, 1) := by decide +kernel
theorem dX6_digest_150 : decode cX6_digest 150 = .ok (.aload_n 0, 1) := by decide +kernel
theorem dX6_digest_151 : decode cX6_digest 151 = .ok (.iload_n 3, 1) := by decide +kernel
theorem dX6_digest_152 : decode cX6_digest 152 = .ok (.iload 4, 2) := by decide +kernel
theorem dX6_digest_154 : decode cX6_digest 154 = .ok (.invokevirtual 140, 3) := by decide +kernel
theorem dX6_digest_157 : decode cX6_digest 157 = .ok (.i2l, 1) := by decide +kernel
theorem dX6_digest_158 : decode cX6_digest 158 = .ok (.ladd, 1) := by decide +kernel
theorem dX6_digest_159 : decode cX6_digest 159 = .ok (.lstore_n 1, 1) := by decide +kernel
theorem dX6_digest_160 : decode cX6_digest 160 = .ok (.iinc 4 1, 3) := by decide +kernel
theorem dX6_digest_163 : decode cX6_digest 163 = .ok (.goto (-25), 3) := by decide +kernel
theorem dX6_digest_166 : decode cX6_digest 166 = .ok (.iinc 3 1, 3) := by decide +kernel
theorem dX6_digest_169 : decode cX6_digest 169 = .ok (.goto (-42), 3) := by decide +kernel
theorem dX6_digest_172 : decode cX6_digest 172 = .ok (.lload_n 1, 1) := by decide +kernel
theorem dX6_digest_173 : decode cX6_digest 173 = .ok (.lreturn, 1) := by decide +kernel
theorem dJ9_abs_0f7a4_0 : decode cJ9_abs_0f7a4 0 = .ok (.iload_n 0, 1) := by decide +kernel
theorem dJ9_abs_0f7a4_1 : decode cJ9_abs_0f7a4 1 = .ok (.ifCond .ge 8, 3) := by decide +kernel
theorem dJ9_abs_0f7a4_4 : decode cJ9_abs_0f7a4 4 = .ok (.iload_n 0, 1) := by decide +kernel
theorem dJ9_abs_0f7a4_5 : decode cJ9_abs_0f7a4 5 = .ok (.ineg, 1) := by decide +kernel
theorem dJ9_abs_0f7a4_6 : decode cJ9_abs_0f7a4 6 = .ok (.goto 4, 3) := by decide +kernel
theorem dJ9_abs_0f7a4_9 : decode cJ9_abs_0f7a4 9 = .ok (.iload_n 0, 1) := by decide +kernel
theorem dJ9_abs_0f7a4_10 : decode cJ9_abs_0f7a4 10 = .ok (.ireturn, 1) := by decide +kernel
theorem dJ9_max_7cf53_0 : decode cJ9_max_7cf53 0 = .ok (.iload_n 0, 1) := by decide +kernel
theorem dJ9_max_7cf53_1 : decode cJ9_max_7cf53 1 = .ok (.iload_n 1, 1) := by decide +kernel
theorem dJ9_max_7cf53_2 : decode cJ9_max_7cf53 2 = .ok (.if_icmp .lt 7, 3) := by decide +kernel
theorem dJ9_max_7cf53_5 : decode cJ9_max_7cf53 5 = .ok (.iload_n 0, 1) := by decide +kernel
theorem dJ9_max_7cf53_6 : decode cJ9_max_7cf53 6 = .ok (.goto 4, 3) := by decide +kernel
theorem dJ9_max_7cf53_9 : decode cJ9_max_7cf53 9 = .ok (.iload_n 1, 1) := by decide +kernel
theorem dJ9_max_7cf53_10 : decode cJ9_max_7cf53 10 = .ok (.ireturn, 1) := by decide +kernel
theorem dJ9_min_7cf53_0 : decode cJ9_min_7cf53 0 = .ok (.iload_n 0, 1) := by decide +kernel
theorem dJ9_min_7cf53_1 : decode cJ9_min_7cf53 1 = .ok (.iload_n 1, 1) := by decide +kernel
theorem dJ9_min_7cf53_2 : decode cJ9_min_7cf53 2 = .ok (.if_icmp .gt 7, 3) := by decide +kernel
theorem dJ9_min_7cf53_5 : decode cJ9_min_7cf53 5 = .ok (.iload_n 0, 1) := by decide +kernel
theorem dJ9_min_7cf53_6 : decode cJ9_min_7cf53 6 = .ok (.goto 4, 3) := by decide +kernel
theorem dJ9_min_7cf53_9 : decode cJ9_min_7cf53 9 = .ok (.iload_n 1, 1) := by decide +kernel
theorem dJ9_min_7cf53_10 : decode cJ9_min_7cf53 10 = .ok (.ireturn, 1) := by decide +kernel
theorem dJxa1e45_init_da8c8_0 : decode cJxa1e45_init_da8c8 0 = .ok (.aload_n 0, 1) := by decide +kernel
theorem dJxa1e45_init_da8c8_1 : decode cJxa1e45_init_da8c8 1 = .ok (.invokespecial 1, 3) := by decide +kernel
theorem dJxa1e45_init_da8c8_4 : decode cJxa1e45_init_da8c8 4 = .ok (.return_, 1) := by decide +kernel
theorem dJxc12de_init_da8c8_0 : decode cJxc12de_init_da8c8 0 = .ok (.aload_n 0, 1) := by decide +kernel
theorem dJxc12de_init_da8c8_1 : decode cJxc12de_init_da8c8 1 = .ok (.invokespecial 1, 3) := by decide +kernel
theorem dJxc12de_init_da8c8_4 : decode cJxc12de_init_da8c8 4 = .ok (.aload_n 0, 1) := by decide +kernel
theorem dJxc12de_init_da8c8_5 : decode cJxc12de_init_da8c8 5 = .ok (.iconst 0, 1) := by decide +kernel
theorem dJxc12de_init_da8c8_6 : decode cJxc12de_init_da8c8 6 = .ok (.putfield 7, 3) := by decide +kernel
theorem dJxc12de_init_da8c8_9 : decode cJxc12de_init_da8c8 9 = .ok (.return_, 1) := by decide +kernel
theorem dJx4a65c_init_da8c8_0 : decode cJx4a65c_init_da8c8 0 = .ok (.aload_n 0, 1) := by decide +kernel
theorem dJx4a65c_init_da8c8_1 : decode cJx4a65c_init_da8c8 1 = .ok (.invokespecial 1, 3) := by decide +kernel
theorem dJx4a65c_init_da8c8_4 : decode cJx4a65c_init_da8c8 4 = .ok (.aload_n 0, 1) := by decide +kernel
theorem dJx4a65c_init_da8c8_5 : decode cJx4a65c_init_da8c8 5 = .ok (.getstatic 39, 3) := by decide +kernel
theorem dJx4a65c_init_da8c8_8 : decode cJx4a65c_init_da8c8 8 = .ok (.putfield 9, 3) := by decide +kernel
theorem dJx4a65c_init_da8c8_11 : decode cJx4a65c_init_da8c8 11 = .ok (.return_, 1) := by decide +kernel
theorem dJx4a65c_grow_92f84_0 : decode cJx4a65c_grow_92f84 0 = .ok (.aload_n 0, 1) := by decide +kernel
theorem dJx4a65c_grow_92f84_1 : decode cJx4a65c_grow_92f84 1 = .ok (.getfield 9, 3) := by decide +kernel
theorem dJx4a65c_grow_92f84_4 : decode cJx4a65c_grow_92f84 4 = .ok (.arraylength, 1) := by decide +kernel
theorem dJx4a65c_grow_92f84_5 : decode cJx4a65c_grow_92f84 5 = .ok (.istore_n 2, 1) := by decide +kernel
theorem dJx4a65c_grow_92f84_6 : decode cJx4a65c_grow_92f84 6 = .ok (.iload_n 2, 1) := by decide +kernel
theorem dJx4a65c_grow_92f84_7 : decode cJx4a65c_grow_92f84 7 = .ok (.ifCond .gt 13, 3) := by decide +kernel
theorem dJx4a65c_grow_92f84_10 : decode cJx4a65c_grow_92f84 10 = .ok (.aload_n 0, 1) := by decide +kernel
theorem dJx4a65c_grow_92f84_11 : decode cJx4a65c_grow_92f84 11 = .ok (.getfield 9, 3) := by decide +kernel
theorem dJx4a65c_grow_92f84_14 : decode cJx4a65c_grow_92f84 14 = .ok (.getstatic 39, 3) := by decide +kernel
theorem dJx4a65c_grow_92f84_17 : decode cJx4a65c_grow_92f84 17 = .ok (.if_acmp .eq 28, 3) := by decide +kernel
theorem dJx4a65c_grow_92f84_20 : decode cJx4a65c_grow_92f84 20 = .ok (.iload_n 2, 1) := by decide +kernel
theorem dJx4a65c_grow_92f84_21 : decode cJx4a65c_grow_92f84 21 = .ok (.iload_n 1, 1) := by decide +kernel
theorem dJx4a65c_grow_92f84_22 : decode cJx4a65c_grow_92f84 22 = .ok (.iload_n 2, 1) := by decide +kernel
theorem dJx4a65c_grow_92f84_23 : decode cJx4a65c_grow_92f84 23 = .ok (.isub, 1) := by decide +kernel
theorem dJx4a65c_grow_92f84_24 : decode cJx4a65c_grow_92f84 24 = .ok (.iload_n 2, 1) := by decide +kernel
theorem dJx4a65c_grow_92f84_25 : decode cJx4a65c_grow_92f84 25 = .ok (.iconst 1, 1) := by decide +kernel
theorem dJx4a65c_grow_92f84_26 : decode cJx4a65c_grow_92f84 26 = .ok (.ishr, 1) := by decide +kernel
theorem dJx4a65c_grow_92f84_27 : decode cJx4a65c_grow_92f84 27 = .ok (.invokestatic 73, 3) := by decide +kernel
theorem dJx4a65c_grow_92f84_30 : decode cJx4a65c_grow_92f84 30 = .ok (.istore_n 3, 1) := by decide +kernel
theorem dJx4a65c_grow_92f84_31 : decode cJx4a65c_grow_92f84 31 = .ok (.aload_n 0, 1) := by decide +kernel
theorem dJx4a65c_grow_92f84_32 : decode cJx4a65c_grow_92f84 32 = .ok (.aload_n 0, 1) := by decide +kernel
theorem dJx4a65c_grow_92f84_33 : decode cJx4a65c_grow_92f84 33 = .ok (.getfield 9, 3) := by decide +kernel
theorem dJx4a65c_grow_92f84_36 : decode cJx4a65c_grow_92f84 36 = .ok (.iload_n 3, 1) := by decide +kernel
theorem dJx4a65c_grow_92f84_37 : decode cJx4a65c_grow_92f84 37 = .ok (.invokestatic 66, 3) := by decide +kernel
theorem dJx4a65c_grow_92f84_40 : decode cJx4a65c_grow_92f84 40 = .ok (.dup_x1, 1) := by decide +kernel
theorem dJx4a65c_grow_92f84_41 : decode cJx4a65c_grow_92f84 41 = .ok (.putfield 9, 3) := by decide +kernel
theorem dJx4a65c_grow_92f84_44 : decode cJx4a65c_grow_92f84 44 = .ok (.areturn, 1) := by decide +kernel
theorem dJx4a65c_grow_92f84_45 : decode cJx4a65c_grow_92f84 45 = .ok (.aload_n 0, 1) := by decide +kernel
theorem dJx4a65c_grow_92f84_46 : decode cJx4a65c_grow_92f84 46 = .ok (.bipush 10, 2) := by decide +kernel
theorem dJx4a65c_grow_92f84_48 : decode cJx4a65c_grow_92f84 48 = .ok (.iload_n 1, 1) := by decide +kernel
theorem dJx4a65c_grow_92f84_49 : decode cJx4a65c_grow_92f84 49 = .ok (.invokestatic 79, 3) := by decide +kernel
theorem dJx4a65c_grow_92f84_52 : decode cJx4a65c_grow_92f84 52 = .ok (.anewarray 7, 3) := by decide +kernel
theorem dJx4a65c_grow_92f84_55 : decode cJx4a65c_grow_92f84 55 = .ok (.dup_x1, 1) := by decide +kernel
theorem dJx4a65c_grow_92f84_56 : decode cJx4a65c_grow_92f84 56 = .ok (.putfield 9, 3) := by decide +kernel
theorem dJx4a65c_grow_92f84_59 : decode cJx4a65c_grow_92f84 59 = .ok (.areturn, 1) := by decide +kernel
theorem dJx4a65c_grow_d5877_0 : decode cJx4a65c_grow_d5877 0 = .ok (.aload_n 0, 1) := by decide +kernel
theorem dJx4a65c_grow_d5877_1 : decode cJx4a65c_grow_d5877 1 = .ok (.aload_n 0, 1) := by decide +kernel
theorem dJx4a65c_grow_d5877_2 : decode cJx4a65c_grow_d5877 2 = .ok (.getfield 48, 3) := by decide +kernel
theorem dJx4a65c_grow_d5877_5 : decode cJx4a65c_grow_d5877 5 = .ok (.iconst 1, 1) := by decide +kernel
theorem dJx4a65c_grow_d5877_6 : decode cJx4a65c_grow_d5877 6 = .ok (.iadd, 1) := by decide +kernel
theorem dJx4a65c_grow_d5877_7 : decode cJx4a65c_grow_d5877 7 = .ok (.invokevirtual 69, 3) := by decide +kernel
theorem dJx4a65c_grow_d5877_10 : decode cJx4a65c_grow_d5877 10 = .ok (.areturn, 1) := by decide +kernel
theorem dJx4a65c_size_8abf5_0 : decode cJx4a65c_size_8abf5 0 = .ok (.aload_n 0, 1) := by decide +kernel
theorem dJx4a65c_size_8abf5_1 : decode cJx4a65c_size_8abf5 1 = .ok (.getfield 48, 3) := by decide +kernel
theorem dJx4a65c_size_8abf5_4 : decode cJx4a65c_size_8abf5 4 = .ok (.ireturn, 1) := by decide +kernel
theorem dJx4a65c_elementData_915e3_0 : decode cJx4a65c_elementData_915e3 0 = .ok (.aload_n 0, 1) := by decide +kernel
theorem dJx4a65c_elementData_915e3_1 : decode cJx4a65c_elementData_915e3 1 = .ok (.getfield 9, 3) := by decide +kernel
theorem dJx4a65c_elementData_915e3_4 : decode cJx4a65c_elementData_915e3 4 = .ok (.iload_n 1, 1) := by decide +kernel
theorem dJx4a65c_elementData_915e3_5 : decode cJx4a65c_elementData_915e3 5 = .ok (.aaload, 1) := by decide +kernel
theorem dJx4a65c_elementData_915e3_6 : decode cJx4a65c_elementData_915e3 6 = .ok (.areturn, 1) := by decide +kernel
theorem dJx4a65c_get_915e3_0 : decode cJx4a65c_get_915e3 0 = .ok (.iload_n 1, 1) := by decide +kernel
theorem dJx4a65c_get_915e3_1 : decode cJx4a65c_get_915e3 1 = .ok (.aload_n 0, 1) := by decide +kernel
theorem dJx4a65c_get_915e3_2 : decode cJx4a65c_get_915e3 2 = .ok (.getfield 48, 3) := by decide +kernel
theorem dJx4a65c_get_915e3_5 : decode cJx4a65c_get_915e3 5 = .ok (.invokestatic 118, 3) := by decide +kernel
theorem dJx4a65c_get_915e3_8 : decode cJx4a65c_get_915e3 8 = .ok (.pop, 1) := by decide +kernel
theorem dJx4a65c_get_915e3_9 : decode cJx4a65c_get_915e3 9 = .ok (.aload_n 0, 1) := by decide +kernel
theorem dJx4a65c_get_915e3_10 : decode cJx4a65c_get_915e3 10 = .ok (.iload_n 1, 1) := by decide +kernel
end
section
theorem dJx4a65c_get_915e3_11 : decode cJx4a65c_get_915e3 11 = .ok (.invokevirtual 123, 3) := by decide +kernel
theorem dJx4a65c_get_915e3_14 : decode cJx4a65c_get_915e3 14 = .ok (.areturn, 1) := by decide +kernel
theorem dJx4a65c_add_72be8_0 : decode cJx4a65c_add_72be8 0 = .ok (.iload_n 3, 1) := by decide +kernel
theorem dJx4a65c_add_72be8_1 : decode cJx4a65c_add_72be8 1 = .ok (.aload_n 2, 1) := by decide +kernel
theorem dJx4a65c_add_72be8_2 : decode cJx4a65c_add_72be8 2 = .ok (.arraylength, 1) := by decide +kernel
theorem dJx4a65c_add_72be8_3 : decode cJx4a65c_add_72be8 3 = .ok (.if_icmp .ne 8, 3) := by decide +kernel
theorem dJx4a65c_add_72be8_6 : decode cJx4a65c_add_72be8 6 = .ok (.aload_n 0, 1) := by decide +kernel
theorem dJx4a65c_add_72be8_7 : decode cJx4a65c_add_72be8 7 = .ok (.invokevirtual 129, 3) := by decide +kernel
theorem dJx4a65c_add_72be8_10 : decode cJx4a65c_add_72be8 10 = .ok (.astore_n 2, 1) := by decide +kernel
theorem dJx4a65c_add_72be8_11 : decode cJx4a65c_add_72be8 11 = .ok (.aload_n 2, 1) := by decide +kernel
theorem dJx4a65c_add_72be8_12 : decode cJx4a65c_add_72be8 12 = .ok (.iload_n 3, 1) := by decide +kernel
theorem dJx4a65c_add_72be8_13 : decode cJx4a65c_add_72be8 13 = .ok (.aload_n 1, 1) := by decide +kernel
theorem dJx4a65c_add_72be8_14 : decode cJx4a65c_add_72be8 14 = .ok (.aastore, 1) := by decide +kernel
theorem dJx4a65c_add_72be8_15 : decode cJx4a65c_add_72be8 15 = .ok (.aload_n 0, 1) := by decide +kernel
theorem dJx4a65c_add_72be8_16 : decode cJx4a65c_add_72be8 16 = .ok (.iload_n 3, 1) := by decide +kernel
theorem dJx4a65c_add_72be8_17 : decode cJx4a65c_add_72be8 17 = .ok (.iconst 1, 1) := by decide +kernel
theorem dJx4a65c_add_72be8_18 : decode cJx4a65c_add_72be8 18 = .ok (.iadd, 1) := by decide +kernel
theorem dJx4a65c_add_72be8_19 : decode cJx4a65c_add_72be8 19 = .ok (.putfield 48, 3) := by decide +kernel
theorem dJx4a65c_add_72be8_22 : decode cJx4a65c_add_72be8 22 = .ok (.return_, 1) := by decide +kernel
theorem dJx4a65c_add_9ea2d_0 : decode cJx4a65c_add_9ea2d 0 = .ok (.aload_n 0, 1) := by decide +kernel
theorem dJx4a65c_add_9ea2d_1 : decode cJx4a65c_add_9ea2d 1 = .ok (.dup, 1) := by decide +kernel
theorem dJx4a65c_add_9ea2d_2 : decode cJx4a65c_add_9ea2d 2 = .ok (.getfield 63, 3) := by decide +kernel
theorem dJx4a65c_add_9ea2d_5 : decode cJx4a65c_add_9ea2d 5 = .ok (.iconst 1, 1) := by decide +kernel
theorem dJx4a65c_add_9ea2d_6 : decode cJx4a65c_add_9ea2d 6 = .ok (.iadd, 1) := by decide +kernel
theorem dJx4a65c_add_9ea2d_7 : decode cJx4a65c_add_9ea2d 7 = .ok (.putfield 63, 3) := by decide +kernel
theorem dJx4a65c_add_9ea2d_10 : decode cJx4a65c_add_9ea2d 10 = .ok (.aload_n 0, 1) := by decide +kernel
theorem dJx4a65c_add_9ea2d_11 : decode cJx4a65c_add_9ea2d 11 = .ok (.aload_n 1, 1) := by decide +kernel
theorem dJx4a65c_add_9ea2d_12 : decode cJx4a65c_add_9ea2d 12 = .ok (.aload_n 0, 1) := by decide +kernel
theorem dJx4a65c_add_9ea2d_13 : decode cJx4a65c_add_9ea2d 13 = .ok (.getfield 9, 3) := by decide +kernel
theorem dJx4a65c_add_9ea2d_16 : decode cJx4a65c_add_9ea2d 16 = .ok (.aload_n 0, 1) := by decide +kernel
theorem dJx4a65c_add_9ea2d_17 : decode cJx4a65c_add_9ea2d 17 = .ok (.getfield 48, 3) := by decide +kernel
theorem dJx4a65c_add_9ea2d_20 : decode cJx4a65c_add_9ea2d 20 = .ok (.invokevirtual 131, 3) := by decide +kernel
theorem dJx4a65c_add_9ea2d_23 : decode cJx4a65c_add_9ea2d 23 = .ok (.iconst 1, 1) := by decide +kernel
theorem dJx4a65c_add_9ea2d_24 : decode cJx4a65c_add_9ea2d 24 = .ok (.ireturn, 1) := by decide +kernel
theorem dJ7_fill_53178_0 : decode cJ7_fill_53178 0 = .ok (.iconst 0, 1) := by decide +kernel
theorem dJ7_fill_53178_1 : decode cJ7_fill_53178 1 = .ok (.istore_n 2, 1) := by decide +kernel
theorem dJ7_fill_53178_2 : decode cJ7_fill_53178 2 = .ok (.aload_n 0, 1) := by decide +kernel
theorem dJ7_fill_53178_3 : decode cJ7_fill_53178 3 = .ok (.arraylength, 1) := by decide +kernel
theorem dJ7_fill_53178_4 : decode cJ7_fill_53178 4 = .ok (.istore_n 3, 1) := by decide +kernel
theorem dJ7_fill_53178_5 : decode cJ7_fill_53178 5 = .ok (.iload_n 2, 1) := by decide +kernel
theorem dJ7_fill_53178_6 : decode cJ7_fill_53178 6 = .ok (.iload_n 3, 1) := by decide +kernel
theorem dJ7_fill_53178_7 : decode cJ7_fill_53178 7 = .ok (.if_icmp .ge 13, 3) := by decide +kernel
theorem dJ7_fill_53178_10 : decode cJ7_fill_53178 10 = .ok (.aload_n 0, 1) := by decide +kernel
theorem dJ7_fill_53178_11 : decode cJ7_fill_53178 11 = .ok (.iload_n 2, 1) := by decide +kernel
theorem dJ7_fill_53178_12 : decode cJ7_fill_53178 12 = .ok (.iload_n 1, 1) := by decide +kernel
theorem dJ7_fill_53178_13 : decode cJ7_fill_53178 13 = .ok (.iastore, 1) := by decide +kernel
theorem dJ7_fill_53178_14 : decode cJ7_fill_53178 14 = .ok (.iinc 2 1, 3) := by decide +kernel
theorem dJ7_fill_53178_17 : decode cJ7_fill_53178 17 = .ok (.goto (-12), 3) := by decide +kernel
theorem dJ7_fill_53178_20 : decode cJ7_fill_53178 20 = .ok (.return_, 1) := by decide +kernel
theorem dJ7_copyOf_1904c_0 : decode cJ7_copyOf_1904c 0 = .ok (.aload_n 0, 1) := by decide +kernel
theorem dJ7_copyOf_1904c_1 : decode cJ7_copyOf_1904c 1 = .ok (.iload_n 1, 1) := by decide +kernel
theorem dJ7_copyOf_1904c_2 : decode cJ7_copyOf_1904c 2 = .ok (.aload_n 0, 1) := by decide +kernel
theorem dJ7_copyOf_1904c_3 : decode cJ7_copyOf_1904c 3 = .ok (.invokevirtual 86, 3) := by decide +kernel
theorem dJ7_copyOf_1904c_6 : decode cJ7_copyOf_1904c 6 = .ok (.invokestatic 300, 3) := by decide +kernel
theorem dJ7_copyOf_1904c_9 : decode cJ7_copyOf_1904c 9 = .ok (.areturn, 1) := by decide +kernel
theorem dJ7_copyOf_6403c_0 : decode cJ7_copyOf_6403c 0 = .ok (.aload_n 2, 1) := by decide +kernel
theorem dJ7_copyOf_6403c_1 : decode cJ7_copyOf_6403c 1 = .ok (.ldc 110, 2) := by decide +kernel
theorem dJ7_copyOf_6403c_3 : decode cJ7_copyOf_6403c 3 = .ok (.if_acmp .ne 10, 3) := by decide +kernel
theorem dJ7_copyOf_6403c_6 : decode cJ7_copyOf_6403c 6 = .ok (.iload_n 1, 1) := by decide +kernel
theorem dJ7_copyOf_6403c_7 : decode cJ7_copyOf_6403c 7 = .ok (.anewarray 2, 3) := by decide +kernel
theorem dJ7_copyOf_6403c_10 : decode cJ7_copyOf_6403c 10 = .ok (.goto 14, 3) := by decide +kernel
theorem dJ7_copyOf_6403c_13 : decode cJ7_copyOf_6403c 13 = .ok (.aload_n 2, 1) := by decide +kernel
theorem dJ7_copyOf_6403c_14 : decode cJ7_copyOf_6403c 14 = .ok (.invokevirtual 90, 3) := by decide +kernel
theorem dJ7_copyOf_6403c_17 : decode cJ7_copyOf_6403c 17 = .ok (.iload_n 1, 1) := by decide +kernel
theorem dJ7_copyOf_6403c_18 : decode cJ7_copyOf_6403c 18 = .ok (.invokestatic 95, 3) := by decide +kernel
theorem dJ7_copyOf_6403c_21 : decode cJ7_copyOf_6403c 21 = .ok (.checkcast 110, 3) := by decide +kernel
theorem dJ7_copyOf_6403c_24 : decode cJ7_copyOf_6403c 24 = .ok (.astore_n 3, 1) := by decide +kernel
theorem dJ7_copyOf_6403c_25 : decode cJ7_copyOf_6403c 25 = .ok (.aload_n 0, 1) := by decide +kernel
theorem dJ7_copyOf_6403c_26 : decode cJ7_copyOf_6403c 26 = .ok (.iconst 0, 1) := by decide +kernel
theorem dJ7_copyOf_6403c_27 : decode cJ7_copyOf_6403c 27 = .ok (.aload_n 3, 1) := by decide +kernel
theorem dJ7_copyOf_6403c_28 : decode cJ7_copyOf_6403c 28 = .ok (.iconst 0, 1) := by decide +kernel
theorem dJ7_copyOf_6403c_29 : decode cJ7_copyOf_6403c 29 = .ok (.aload_n 0, 1) := by decide +kernel
theorem dJ7_copyOf_6403c_30 : decode cJ7_copyOf_6403c 30 = .ok (.arraylength, 1) := by decide +kernel
theorem dJ7_copyOf_6403c_31 : decode cJ7_copyOf_6403c 31 = .ok (.iload_n 1, 1) := by decide +kernel
theorem dJ7_copyOf_6403c_32 : decode cJ7_copyOf_6403c 32 = .ok (.invokestatic 304, 3) := by decide +kernel
theorem dJ7_copyOf_6403c_35 : decode cJ7_copyOf_6403c 35 = .ok (.invokestatic 150, 3) := by decide +kernel
theorem dJ7_copyOf_6403c_38 : decode cJ7_copyOf_6403c 38 = .ok (.aload_n 3, 1) := by decide +kernel
theorem dJ7_copyOf_6403c_39 : decode cJ7_copyOf_6403c 39 = .ok (.areturn, 1) := by decide +kernel
theorem dJ15_checkIndex_7cf53_0 : decode cJ15_checkIndex_7cf53 0 = .ok (.iload_n 0, 1) := by decide +kernel
theorem dJ15_checkIndex_7cf53_1 : decode cJ15_checkIndex_7cf53 1 = .ok (.iload_n 1, 1) := by decide +kernel
theorem dJ15_checkIndex_7cf53_2 : decode cJ15_checkIndex_7cf53 2 = .ok (.aconst_null, 1) := by decide +kernel
theorem dJ15_checkIndex_7cf53_3 : decode cJ15_checkIndex_7cf53 3 = .ok (.invokestatic 105, 3) := by decide +kernel
theorem dJ15_checkIndex_7cf53_6 : decode cJ15_checkIndex_7cf53 6 = .ok (.ireturn, 1) := by decide +kernel
theorem dJ8_newLength_cabcc_0 : decode cJ8_newLength_cabcc 0 = .ok (.iload_n 0, 1) := by decide +kernel
theorem dJ8_newLength_cabcc_1 : decode cJ8_newLength_cabcc 1 = .ok (.iload_n 1, 1) := by decide +kernel
theorem dJ8_newLength_cabcc_2 : decode cJ8_newLength_cabcc 2 = .ok (.iload_n 2, 1) := by decide +kernel
theorem dJ8_newLength_cabcc_3 : decode cJ8_newLength_cabcc 3 = .ok (.invokestatic 194, 3) := by decide +kernel
theorem dJ8_newLength_cabcc_6 : decode cJ8_newLength_cabcc 6 = .ok (.iadd, 1) := by decide +kernel
theorem dJ8_newLength_cabcc_7 : decode cJ8_newLength_cabcc 7 = .ok (.istore_n 3, 1) := by decide +kernel
theorem dJ8_newLength_cabcc_8 : decode cJ8_newLength_cabcc 8 = .ok (.iconst 0, 1) := by decide +kernel
theorem dJ8_newLength_cabcc_9 : decode cJ8_newLength_cabcc 9 = .ok (.iload_n 3, 1) := by decide +kernel
theorem dJ8_newLength_cabcc_10 : decode cJ8_newLength_cabcc 10 = .ok (.if_icmp .ge 11, 3) := by decide +kernel
theorem dJ8_newLength_cabcc_13 : decode cJ8_newLength_cabcc 13 = .ok (.iload_n 3, 1) := by decide +kernel
theorem dJ8_newLength_cabcc_14 : decode cJ8_newLength_cabcc 14 = .ok (.ldc 200, 2) := by decide +kernel
theorem dJ8_newLength_cabcc_16 : decode cJ8_newLength_cabcc 16 = .ok (.if_icmp .gt 5, 3) := by decide +kernel
theorem dJ8_newLength_cabcc_19 : decode cJ8_newLength_cabcc 19 = .ok (.iload_n 3, 1) := by decide +kernel
theorem dJ8_newLength_cabcc_20 : decode cJ8_newLength_cabcc 20 = .ok (.ireturn, 1) := by decide +kernel
theorem dJ8_newLength_cabcc_21 : decode cJ8_newLength_cabcc 21 = .ok (.iload_n 0, 1) := by decide +kernel
theorem dJ8_newLength_cabcc_22 : decode cJ8_newLength_cabcc 22 = .ok (.iload_n 1, 1) := by decide +kernel
theorem dJ8_newLength_cabcc_23 : decode cJ8_newLength_cabcc 23 = .ok (.invokestatic 201, 3) := by decide +kernel
theorem dJ8_newLength_cabcc_26 : decode cJ8_newLength_cabcc 26 = .ok (.ireturn, 1) := by decide +kernel
theorem dJ8_hugeLength_7cf53_0 : decode cJ8_hugeLength_7cf53 0 = .ok (.iload_n 0, 1) := by decide +kernel
theorem dJ8_hugeLength_7cf53_1 : decode cJ8_hugeLength_7cf53 1 = .ok (.iload_n 1, 1) := by decide +kernel
theorem dJ8_hugeLength_7cf53_2 : decode cJ8_hugeLength_7cf53 2 = .ok (.iadd, 1) := by decide +kernel
theorem dJ8_hugeLength_7cf53_3 : decode cJ8_hugeLength_7cf53 3 = .ok (.istore_n 2, 1) := by decide +kernel
theorem dJ8_hugeLength_7cf53_4 : decode cJ8_hugeLength_7cf53 4 = .ok (.iload_n 2, 1) := by decide +kernel
theorem dJ8_hugeLength_7cf53_5 : decode cJ8_hugeLength_7cf53 5 = .ok (.ifCond .ge 44, 3) := by decide +kernel
theorem dJ8_hugeLength_7cf53_8 : decode cJ8_hugeLength_7cf53 8 = .ok (.new 204, 3) := by decide +kernel
theorem dJ8_hugeLength_7cf53_11 : decode cJ8_hugeLength_7cf53 11 = .ok (.dup, 1) := by decide +kernel
theorem dJ8_hugeLength_7cf53_12 : decode cJ8_hugeLength_7cf53 12 = .ok (.new 89, 3) := by decide +kernel
theorem dJ8_hugeLength_7cf53_15 : decode cJ8_hugeLength_7cf53 15 = .ok (.dup, 1) := by decide +kernel
theorem dJ8_hugeLength_7cf53_16 : decode cJ8_hugeLength_7cf53 16 = .ok (.invokespecial 91, 3) := by decide +kernel
theorem dJ8_hugeLength_7cf53_19 : decode cJ8_hugeLength_7cf53 19 = .ok (.ldc 206, 2) := by decide +kernel
theorem dJ8_hugeLength_7cf53_21 : decode cJ8_hugeLength_7cf53 21 = .ok (.invokevirtual 94, 3) := by decide +kernel
theorem dJ8_hugeLength_7cf53_24 : decode cJ8_hugeLength_7cf53 24 = .ok (.iload_n 0, 1) := by decide +kernel
theorem dJ8_hugeLength_7cf53_25 : decode cJ8_hugeLength_7cf53 25 = .ok (.invokevirtual 98, 3) := by decide +kernel
theorem dJ8_hugeLength_7cf53_28 : decode cJ8_hugeLength_7cf53 28 = .ok (.ldc 208, 2) := by decide +kernel
theorem dJ8_hugeLength_7cf53_30 : decode cJ8_hugeLength_7cf53 30 = .ok (.invokevirtual 94, 3) := by decide +kernel
theorem dJ8_hugeLength_7cf53_33 : decode cJ8_hugeLength_7cf53 33 = .ok (.iload_n 1, 1) := by decide +kernel
theorem dJ8_hugeLength_7cf53_34 : decode cJ8_hugeLength_7cf53 34 = .ok (.invokevirtual 98, 3) := by decide +kernel
theorem dJ8_hugeLength_7cf53_37 : decode cJ8_hugeLength_7cf53 37 = .ok (.ldc 210, 2) := by decide +kernel
theorem dJ8_hugeLength_7cf53_39 : decode cJ8_hugeLength_7cf53 39 = .ok (.invokevirtual 94, 3) := by decide +kernel
theorem dJ8_hugeLength_7cf53_42 : decode cJ8_hugeLength_7cf53 42 = .ok (.invokevirtual 101, 3) := by decide +kernel
theorem dJ8_hugeLength_7cf53_45 : decode cJ8_hugeLength_7cf53 45 = .ok (.invokespecial 212, 3) := by decide +kernel
theorem dJ8_hugeLength_7cf53_48 : decode cJ8_hugeLength_7cf53 48 = .ok (.athrow, 1) := by decide +kernel
theorem dJ8_hugeLength_7cf53_49 : decode cJ8_hugeLength_7cf53 49 = .ok (.iload_n 2, 1) := by decide +kernel
theorem dJ8_hugeLength_7cf53_50 : decode cJ8_hugeLength_7cf53 50 = .ok (.ldc 200, 2) := by decide +kernel
theorem dJ8_hugeLength_7cf53_52 : decode cJ8_hugeLength_7cf53 52 = .ok (.if_icmp .gt 6, 3) := by decide +kernel
theorem dJ8_hugeLength_7cf53_55 : decode cJ8_hugeLength_7cf53 55 = .ok (.ldc 200, 2) := by decide +kernel
theorem dJ8_hugeLength_7cf53_57 : decode cJ8_hugeLength_7cf53 57 = .ok (.ireturn, 1) := by decide +kernel
theorem dJ8_hugeLength_7cf53_58 : decode cJ8_hugeLength_7cf53 58 = .ok (.iload_n 2, 1) := by decide +kernel
theorem dJ8_hugeLength_7cf53_59 : decode cJ8_hugeLength_7cf53 59 = .ok (.ireturn, 1) := by decide +kernel
theorem dJ3_checkIndex_8e157_0 : decode cJ3_checkIndex_8e157 0 = .ok (.iload_n 0, 1) := by decide +kernel
theorem dJ3_checkIndex_8e157_1 : decode cJ3_checkIndex_8e157 1 = .ok (.ifCond .lt 8, 3) := by decide +kernel
theorem dJ3_checkIndex_8e157_4 : decode cJ3_checkIndex_8e157 4 = .ok (.iload_n 0, 1) := by decide +kernel
theorem dJ3_checkIndex_8e157_5 : decode cJ3_checkIndex_8e157 5 = .ok (.iload_n 1, 1) := by decide +kernel
theorem dJ3_checkIndex_8e157_6 : decode cJ3_checkIndex_8e157 6 = .ok (.if_icmp .lt 10, 3) := by decide +kernel
theorem dJ3_checkIndex_8e157_9 : decode cJ3_checkIndex_8e157 9 = .ok (.aload_n 2, 1) := by decide +kernel
theorem dJ3_checkIndex_8e157_10 : decode cJ3_checkIndex_8e157 10 = .ok (.iload_n 0, 1) := by decide +kernel
theorem dJ3_checkIndex_8e157_11 : decode cJ3_checkIndex_8e157 11 = .ok (.iload_n 1, 1) := by decide +kernel
theorem dJ3_checkIndex_8e157_12 : decode cJ3_checkIndex_8e157 12 = .ok (.invokestatic 95, 3) := by decide +kernel
theorem dJ3_checkIndex_8e157_15 : decode cJ3_checkIndex_8e157 15 = .ok (.athrow, 1) := by decide +kernel
theorem dJ3_checkIndex_8e157_16 : decode cJ3_checkIndex_8e157 16 = .ok (.iload_n 0, 1) := by decide +kernel
theorem dJ3_checkIndex_8e157_17 : decode cJ3_checkIndex_8e157 17 = .ok (.ireturn, 1) := by decide +kernel
theorem dL_build_0 : decode cL_build 0 = .ok (.aload 5, 2) := by decide +kernel
theorem dL_build_2 : decode cL_build 2 = .ok (.iconst 0, 1) := by decide +kernel
theorem dL_build_3 : decode cL_build 3 = .ok (.aload_n 0, 1) := by decide +kernel
theorem dL_build_4 : decode cL_build 4 = .ok (.iload_n 1, 1) := by decide +kernel
theorem dL_build_5 : decode cL_build 5 = .ok (.iload_n 2, 1) := by decide +kernel
theorem dL_build_6 : decode cL_build 6 = .ok (.iload_n 3, 1) := by decide +kernel
theorem dL_build_7 : decode cL_build 7 = .ok (.iload 4, 2) := by decide +kernel
theorem dL_build_9 : decode cL_build 9 = .ok (.invokevirtual 7, 3) := by decide +kernel
theorem dL_build_12 : decode cL_build 12 = .ok (.i2l, 1) := by decide +kernel
theorem dL_build_13 : decode cL_build 13 = .ok (.lastore, 1) := by decide +kernel
theorem dL_build_14 : decode cL_build 14 = .ok (.goto 15, 3) := by decide +kernel
theorem dL_build_17 : decode cL_build 17 = .ok (.astore 6, 2) := by decide +kernel
theorem dL_build_19 : decode cL_build 19 = .ok (.iconst 1, 1) := by decide +kernel
theorem dL_build_20 : decode cL_build 20 = .ok (.ireturn, 1) := by decide +kernel
theorem dL_build_21 : decode cL_build 21 = .ok (.astore 6, 2) := by decide +kernel
theorem dL_build_23 : decode cL_build 23 = .ok (.iconst 2, 1) := by decide +kernel
theorem dL_build_24 : decode cL_build 24 = .ok (.ireturn, 1) := by decide +kernel
theorem dL_build_25 : decode cL_build 25 = .ok (.astore 6, 2) := by decide +kernel
theorem dL_build_27 : decode cL_build 27 = .ok (.iconst 3, 1) := by decide +kernel
theorem dL_build_28 : decode cL_build 28 = .ok (.ireturn, 1) := by decide +kernel
theorem dL_build_29 : decode cL_build 29 = .ok (.iconst 0, 1) := by decide +kernel
theorem dL_build_30 : decode cL_build 30 = .ok (.ireturn, 1) := by decide +kernel
theorem dL_dig_0 : decode cL_dig 0 = .ok (.aload 4, 2) := by decide +kernel
theorem dL_dig_2 : decode cL_dig 2 = .ok (.iconst 0, 1) := by decide +kernel
theorem dL_dig_3 : decode cL_dig 3 = .ok (.aload_n 0, 1) := by decide +kernel
theorem dL_dig_4 : decode cL_dig 4 = .ok (.iload_n 1, 1) := by decide +kernel
theorem dL_dig_5 : decode cL_dig 5 = .ok (.iload_n 2, 1) := by decide +kernel
theorem dL_dig_6 : decode cL_dig 6 = .ok (.iload_n 3, 1) := by decide +kernel
theorem dL_dig_7 : decode cL_dig 7 = .ok (.invokevirtual 19, 3) := by decide +kernel
theorem dL_dig_10 : decode cL_dig 10 = .ok (.i2l, 1) := by decide +kernel
theorem dL_dig_11 : decode cL_dig 11 = .ok (.lastore, 1) := by decide +kernel
theorem dL_dig_12 : decode cL_dig 12 = .ok (.goto 15, 3) := by decide +kernel
theorem dL_dig_15 : decode cL_dig 15 = .ok (.astore 5, 2) := by decide +kernel
theorem dL_dig_17 : decode cL_dig 17 = .ok (.iconst 1, 1) := by decide +kernel
theorem dL_dig_18 : decode cL_dig 18 = .ok (.ireturn, 1) := by decide +kernel
theorem dL_dig_19 : decode cL_dig 19 = .ok (.astore 5, 2) := by decide +kernel
theorem dL_dig_21 : decode cL_dig 21 = .ok (.iconst 2, 1) := by decide +kernel
theorem dL_dig_22 : decode cL_dig 22 = .ok (.ireturn, 1) := by decide +kernel
theorem dL_dig_23 : decode cL_dig 23 = .ok (.astore 5, 2) := by decide +kernel
theorem dL_dig_25 : decode cL_dig 25 = .ok (.iconst 3, 1) := by decide +kernel
theorem dL_dig_26 : decode cL_dig 26 = .ok (.ireturn, 1) := by decide +kernel
theorem dL_dig_27 : decode cL_dig 27 = .ok (.iconst 0, 1) := by decide +kernel
theorem dL_dig_28 : decode cL_dig 28 = .ok (.ireturn, 1) := by decide +kernel
theorem dL_light_0 : decode cL_light 0 = .ok (.aload_n 3, 1) := by decide +kernel
theorem dL_light_1 : decode cL_light 1 = .ok (.iconst 0, 1) := by decide +kernel
theorem dL_light_2 : decode cL_light 2 = .ok (.aload_n 0, 1) := by decide +kernel
theorem dL_light_3 : decode cL_light 3 = .ok (.iload_n 1, 1) := by decide +kernel
theorem dL_light_4 : decode cL_light 4 = .ok (.iload_n 2, 1) := by decide +kernel
theorem dL_light_5 : decode cL_light 5 = .ok (.invokevirtual 23, 3) := by decide +kernel
theorem dL_light_8 : decode cL_light 8 = .ok (.i2l, 1) := by decide +kernel
theorem dL_light_9 : decode cL_light 9 = .ok (.lastore, 1) := by decide +kernel
theorem dL_light_10 : decode cL_light 10 = .ok (.goto 15, 3) := by decide +kernel
theorem dL_light_13 : decode cL_light 13 = .ok (.astore 4, 2) := by decide +kernel
theorem dL_light_15 : decode cL_light 15 = .ok (.iconst 1, 1) := by decide +kernel
theorem dL_light_16 : decode cL_light 16 = .ok (.ireturn, 1) := by decide +kernel
theorem dL_light_17 : decode cL_light 17 = .ok (.astore 4, 2) := by decide +kernel
theorem dL_light_19 : decode cL_light 19 = .ok (.iconst 2, 1) := by decide +kernel
theorem dL_light_20 : decode cL_light 20 = .ok (.ireturn, 1) := by decide +kernel
theorem dL_light_21 : decode cL_light 21 = .ok (.astore 4, 2) := by decide +kernel
theorem dL_light_23 : decode cL_light 23 = .ok (.iconst 3, 1) := by decide +kernel
theorem dL_light_24 : decode cL_light 24 = .ok (.ireturn, 1) := by decide +kernel
theorem dL_light_25 : decode cL_light 25 = .ok (.iconst 0, 1) := by decide +kernel
theorem dL_light_26 : decode cL_light 26 = .ok (.ireturn, 1) := by decide +kernel
theorem dL_cell_0 : decode cL_cell 0 = .ok (.aload 4, 2) := by decide +kernel
theorem dL_cell_2 : decode cL_cell 2 = .ok (.iconst 0, 1) := by decide +kernel
theorem dL_cell_3 : decode cL_cell 3 = .ok (.aload_n 0, 1) := by decide +kernel
theorem dL_cell_4 : decode cL_cell 4 = .ok (.iload_n 1, 1) := by decide +kernel
theorem dL_cell_5 : decode cL_cell 5 = .ok (.iload_n 2, 1) := by decide +kernel
theorem dL_cell_6 : decode cL_cell 6 = .ok (.iload_n 3, 1) := by decide +kernel
theorem dL_cell_7 : decode cL_cell 7 = .ok (.invokevirtual 27, 3) := by decide +kernel
theorem dL_cell_10 : decode cL_cell 10 = .ok (.i2l, 1) := by decide +kernel
theorem dL_cell_11 : decode cL_cell 11 = .ok (.lastore, 1) := by decide +kernel
theorem dL_cell_12 : decode cL_cell 12 = .ok (.goto 7, 3) := by decide +kernel
theorem dL_cell_15 : decode cL_cell 15 = .ok (.astore 5, 2) := by decide +kernel
theorem dL_cell_17 : decode cL_cell 17 = .ok (.iconst 1, 1) := by decide +kernel
theorem dL_cell_18 : decode cL_cell 18 = .ok (.ireturn, 1) := by decide +kernel
theorem dL_cell_19 : decode cL_cell 19 = .ok (.iconst 0, 1) := by decide +kernel
theorem dL_cell_20 : decode cL_cell 20 = .ok (.ireturn, 1) := by decide +kernel
theorem dL_house_0 : decode cL_house 0 = .ok (.aload_n 3, 1) := by decide +kernel
theorem dL_house_1 : decode cL_house 1 = .ok (.iconst 0, 1) := by decide +kernel
theorem dL_house_2 : decode cL_house 2 = .ok (.aload_n 0, 1) := by decide +kernel
theorem dL_house_3 : decode cL_house 3 = .ok (.iload_n 1, 1) := by decide +kernel
theorem dL_house_4 : decode cL_house 4 = .ok (.iload_n 2, 1) := by decide +kernel
theorem dL_house_5 : decode cL_house 5 = .ok (.invokevirtual 30, 3) := by decide +kernel
theorem dL_house_8 : decode cL_house 8 = .ok (.i2l, 1) := by decide +kernel
theorem dL_house_9 : decode cL_house 9 = .ok (.lastore, 1) := by decide +kernel
theorem dL_house_10 : decode cL_house 10 = .ok (.goto 7, 3) := by decide +kernel
theorem dL_house_13 : decode cL_house 13 = .ok (.astore 4, 2) := by decide +kernel
theorem dL_house_15 : decode cL_house 15 = .ok (.iconst 1, 1) := by decide +kernel
theorem dL_house_16 : decode cL_house 16 = .ok (.ireturn, 1) := by decide +kernel
theorem dL_house_17 : decode cL_house 17 = .ok (.iconst 0, 1) := by decide +kernel
theorem dL_house_18 : decode cL_house 18 = .ok (.ireturn, 1) := by decide +kernel
theorem dL_addEngine_0 : decode cL_addEngine 0 = .ok (.aload 5, 2) := by decide +kernel
theorem dL_addEngine_2 : decode cL_addEngine 2 = .ok (.iconst 0, 1) := by decide +kernel
theorem dL_addEngine_3 : decode cL_addEngine 3 = .ok (.aload_n 0, 1) := by decide +kernel
theorem dL_addEngine_4 : decode cL_addEngine 4 = .ok (.iload_n 1, 1) := by decide +kernel
theorem dL_addEngine_5 : decode cL_addEngine 5 = .ok (.iload_n 2, 1) := by decide +kernel
theorem dL_addEngine_6 : decode cL_addEngine 6 = .ok (.iload_n 3, 1) := by decide +kernel
theorem dL_addEngine_7 : decode cL_addEngine 7 = .ok (.iload 4, 2) := by decide +kernel
theorem dL_addEngine_9 : decode cL_addEngine 9 = .ok (.invokevirtual 33, 3) := by decide +kernel
theorem dL_addEngine_12 : decode cL_addEngine 12 = .ok (.i2l, 1) := by decide +kernel
theorem dL_addEngine_13 : decode cL_addEngine 13 = .ok (.lastore, 1) := by decide +kernel
theorem dL_addEngine_14 : decode cL_addEngine 14 = .ok (.goto 15, 3) := by decide +kernel
theorem dL_addEngine_17 : decode cL_addEngine 17 = .ok (.astore 6, 2) := by decide +kernel
theorem dL_addEngine_19 : decode cL_addEngine 19 = .ok (.iconst 1, 1) := by decide +kernel
theorem dL_addEngine_20 : decode cL_addEngine 20 = .ok (.ireturn, 1) := by decide +kernel
theorem dL_addEngine_21 : decode cL_addEngine 21 = .ok (.astore 6, 2) := by decide +kernel
theorem dL_addEngine_23 : decode cL_addEngine 23 = .ok (.iconst 2, 1) := by decide +kernel
theorem dL_addEngine_24 : decode cL_addEngine 24 = .ok (.ireturn, 1) := by decide +kernel
theorem dL_addEngine_25 : decode cL_addEngine 25 = .ok (.astore 6, 2) := by decide +kernel
theorem dL_addEngine_27 : decode cL_addEngine 27 = .ok (.iconst 3, 1) := by decide +kernel
theorem dL_addEngine_28 : decode cL_addEngine 28 = .ok (.ireturn, 1) := by decide +kernel
theorem dL_addEngine_29 : decode cL_addEngine 29 = .ok (.iconst 0, 1) := by decide +kernel
theorem dL_addEngine_30 : decode cL_addEngine 30 = .ok (.ireturn, 1) := by decide +kernel
theorem dL_stoke_0 : decode cL_stoke 0 = .ok (.aload_n 3, 1) := by decide +kernel
theorem dL_stoke_1 : decode cL_stoke 1 = .ok (.iconst 0, 1) := by decide +kernel
theorem dL_stoke_2 : decode cL_stoke 2 = .ok (.aload_n 0, 1) := by decide +kernel
theorem dL_stoke_3 : decode cL_stoke 3 = .ok (.iload_n 1, 1) := by decide +kernel
theorem dL_stoke_4 : decode cL_stoke 4 = .ok (.iload_n 2, 1) := by decide +kernel
theorem dL_stoke_5 : decode cL_stoke 5 = .ok (.invokevirtual 36, 3) := by decide +kernel
theorem dL_stoke_8 : decode cL_stoke 8 = .ok (.i2l, 1) := by decide +kernel
theorem dL_stoke_9 : decode cL_stoke 9 = .ok (.lastore, 1) := by decide +kernel
theorem dL_stoke_10 : decode cL_stoke 10 = .ok (.goto 15, 3) := by decide +kernel
theorem dL_stoke_13 : decode cL_stoke 13 = .ok (.astore 4, 2) := by decide +kernel
theorem dL_stoke_15 : decode cL_stoke 15 = .ok (.iconst 1, 1) := by decide +kernel
theorem dL_stoke_16 : decode cL_stoke 16 = .ok (.ireturn, 1) := by decide +kernel
theorem dL_stoke_17 : decode cL_stoke 17 = .ok (.astore 4, 2) := by decide +kernel
theorem dL_stoke_19 : decode cL_stoke 19 = .ok (.iconst 2, 1) := by decide +kernel
theorem dL_stoke_20 : decode cL_stoke 20 = .ok (.ireturn, 1) := by decide +kernel
theorem dL_stoke_21 : decode cL_stoke 21 = .ok (.astore 4, 2) := by decide +kernel
theorem dL_stoke_23 : decode cL_stoke 23 = .ok (.iconst 3, 1) := by decide +kernel
theorem dL_stoke_24 : decode cL_stoke 24 = .ok (.ireturn, 1) := by decide +kernel
theorem dL_stoke_25 : decode cL_stoke 25 = .ok (.iconst 0, 1) := by decide +kernel
theorem dL_stoke_26 : decode cL_stoke 26 = .ok (.ireturn, 1) := by decide +kernel
theorem dL_drive_0 : decode cL_drive 0 = .ok (.aload 4, 2) := by decide +kernel
theorem dL_drive_2 : decode cL_drive 2 = .ok (.iconst 0, 1) := by decide +kernel
theorem dL_drive_3 : decode cL_drive 3 = .ok (.aload_n 0, 1) := by decide +kernel
theorem dL_drive_4 : decode cL_drive 4 = .ok (.iload_n 1, 1) := by decide +kernel
theorem dL_drive_5 : decode cL_drive 5 = .ok (.iload_n 2, 1) := by decide +kernel
theorem dL_drive_6 : decode cL_drive 6 = .ok (.iload_n 3, 1) := by decide +kernel
theorem dL_drive_7 : decode cL_drive 7 = .ok (.invokevirtual 39, 3) := by decide +kernel
theorem dL_drive_10 : decode cL_drive 10 = .ok (.i2l, 1) := by decide +kernel
theorem dL_drive_11 : decode cL_drive 11 = .ok (.lastore, 1) := by decide +kernel
theorem dL_drive_12 : decode cL_drive 12 = .ok (.goto 11, 3) := by decide +kernel
theorem dL_drive_15 : decode cL_drive 15 = .ok (.astore 5, 2) := by decide +kernel
theorem dL_drive_17 : decode cL_drive 17 = .ok (.iconst 1, 1) := by decide +kernel
theorem dL_drive_18 : decode cL_drive 18 = .ok (.ireturn, 1) := by decide +kernel
theorem dL_drive_19 : decode cL_drive 19 = .ok (.astore 5, 2) := by decide +kernel
theorem dL_drive_21 : decode cL_drive 21 = .ok (.iconst 2, 1) := by decide +kernel
theorem dL_drive_22 : decode cL_drive 22 = .ok (.ireturn, 1) := by decide +kernel
theorem dL_drive_23 : decode cL_drive 23 = .ok (.iconst 0, 1) := by decide +kernel
theorem dL_drive_24 : decode cL_drive 24 = .ok (.ireturn, 1) := by decide +kernel
theorem dL_relay_0 : decode cL_relay 0 = .ok (.aload_n 3, 1) := by decide +kernel
theorem dL_relay_1 : decode cL_relay 1 = .ok (.iconst 0, 1) := by decide +kernel
theorem dL_relay_2 : decode cL_relay 2 = .ok (.aload_n 0, 1) := by decide +kernel
theorem dL_relay_3 : decode cL_relay 3 = .ok (.iload_n 1, 1) := by decide +kernel
theorem dL_relay_4 : decode cL_relay 4 = .ok (.iload_n 2, 1) := by decide +kernel
theorem dL_relay_5 : decode cL_relay 5 = .ok (.invokevirtual 42, 3) := by decide +kernel
theorem dL_relay_8 : decode cL_relay 8 = .ok (.i2l, 1) := by decide +kernel
theorem dL_relay_9 : decode cL_relay 9 = .ok (.lastore, 1) := by decide +kernel
theorem dL_relay_10 : decode cL_relay 10 = .ok (.goto 11, 3) := by decide +kernel
theorem dL_relay_13 : decode cL_relay 13 = .ok (.astore 4, 2) := by decide +kernel
theorem dL_relay_15 : decode cL_relay 15 = .ok (.iconst 1, 1) := by decide +kernel
theorem dL_relay_16 : decode cL_relay 16 = .ok (.ireturn, 1) := by decide +kernel
theorem dL_relay_17 : decode cL_relay 17 = .ok (.astore 4, 2) := by decide +kernel
theorem dL_relay_19 : decode cL_relay 19 = .ok (.iconst 2, 1) := by decide +kernel
theorem dL_relay_20 : decode cL_relay 20 = .ok (.ireturn, 1) := by decide +kernel
theorem dL_relay_21 : decode cL_relay 21 = .ok (.iconst 0, 1) := by decide +kernel
theorem dL_relay_22 : decode cL_relay 22 = .ok (.ireturn, 1) := by decide +kernel
theorem dL_aim_0 : decode cL_aim 0 = .ok (.aload_n 3, 1) := by decide +kernel
theorem dL_aim_1 : decode cL_aim 1 = .ok (.iconst 0, 1) := by decide +kernel
theorem dL_aim_2 : decode cL_aim 2 = .ok (.aload_n 0, 1) := by decide +kernel
theorem dL_aim_3 : decode cL_aim 3 = .ok (.iload_n 1, 1) := by decide +kernel
theorem dL_aim_4 : decode cL_aim 4 = .ok (.iload_n 2, 1) := by decide +kernel
theorem dL_aim_5 : decode cL_aim 5 = .ok (.invokevirtual 45, 3) := by decide +kernel
theorem dL_aim_8 : decode cL_aim 8 = .ok (.i2l, 1) := by decide +kernel
theorem dL_aim_9 : decode cL_aim 9 = .ok (.lastore, 1) := by decide +kernel
theorem dL_aim_10 : decode cL_aim 10 = .ok (.goto 11, 3) := by decide +kernel
theorem dL_aim_13 : decode cL_aim 13 = .ok (.astore 4, 2) := by decide +kernel
theorem dL_aim_15 : decode cL_aim 15 = .ok (.iconst 1, 1) := by decide +kernel
theorem dL_aim_16 : decode cL_aim 16 = .ok (.ireturn, 1) := by decide +kernel
theorem dL_aim_17 : decode cL_aim 17 = .ok (.astore 4, 2) := by decide +kernel
theorem dL_aim_19 : decode cL_aim 19 = .ok (.iconst 2, 1) := by decide +kernel
theorem dL_aim_20 : decode cL_aim 20 = .ok (.ireturn, 1) := by decide +kernel
theorem dL_aim_21 : decode cL_aim 21 = .ok (.iconst 0, 1) := by decide +kernel
theorem dL_aim_22 : decode cL_aim 22 = .ok (.ireturn, 1) := by decide +kernel
theorem dL_takeUp_0 : decode cL_takeUp 0 = .ok (.aload_n 2, 1) := by decide +kernel
theorem dL_takeUp_1 : decode cL_takeUp 1 = .ok (.iconst 0, 1) := by decide +kernel
theorem dL_takeUp_2 : decode cL_takeUp 2 = .ok (.aload_n 0, 1) := by decide +kernel
theorem dL_takeUp_3 : decode cL_takeUp 3 = .ok (.iload_n 1, 1) := by decide +kernel
theorem dL_takeUp_4 : decode cL_takeUp 4 = .ok (.invokevirtual 48, 3) := by decide +kernel
theorem dL_takeUp_7 : decode cL_takeUp 7 = .ok (.ifCond .eq 7, 3) := by decide +kernel
theorem dL_takeUp_10 : decode cL_takeUp 10 = .ok (.lconst 1, 1) := by decide +kernel
theorem dL_takeUp_11 : decode cL_takeUp 11 = .ok (.goto 4, 3) := by decide +kernel
theorem dL_takeUp_14 : decode cL_takeUp 14 = .ok (.lconst 0, 1) := by decide +kernel
theorem dL_takeUp_15 : decode cL_takeUp 15 = .ok (.lastore, 1) := by decide +kernel
theorem dL_takeUp_16 : decode cL_takeUp 16 = .ok (.goto 6, 3) := by decide +kernel
theorem dL_takeUp_19 : decode cL_takeUp 19 = .ok (.astore_n 3, 1) := by decide +kernel
theorem dL_takeUp_20 : decode cL_takeUp 20 = .ok (.iconst 1, 1) := by decide +kernel
theorem dL_takeUp_21 : decode cL_takeUp 21 = .ok (.ireturn, 1) := by decide +kernel
theorem dL_takeUp_22 : decode cL_takeUp 22 = .ok (.iconst 0, 1) := by decide +kernel
theorem dL_takeUp_23 : decode cL_takeUp 23 = .ok (.ireturn, 1) := by decide +kernel
theorem dL_engine_0 : decode cL_engine 0 = .ok (.aload_n 3, 1) := by decide +kernel
theorem dL_engine_1 : decode cL_engine 1 = .ok (.iconst 0, 1) := by decide +kernel
theorem dL_engine_2 : decode cL_engine 2 = .ok (.aload_n 0, 1) := by decide +kernel
theorem dL_engine_3 : decode cL_engine 3 = .ok (.iload_n 1, 1) := by decide +kernel
theorem dL_engine_4 : decode cL_engine 4 = .ok (.iload_n 2, 1) := by decide +kernel
theorem dL_engine_5 : decode cL_engine 5 = .ok (.invokevirtual 52, 3) := by decide +kernel
theorem dL_engine_8 : decode cL_engine 8 = .ok (.i2l, 1) := by decide +kernel
theorem dL_engine_9 : decode cL_engine 9 = .ok (.lastore, 1) := by decide +kernel
theorem dL_engine_10 : decode cL_engine 10 = .ok (.goto 7, 3) := by decide +kernel
theorem dL_engine_13 : decode cL_engine 13 = .ok (.astore 4, 2) := by decide +kernel
theorem dL_engine_15 : decode cL_engine 15 = .ok (.iconst 1, 1) := by decide +kernel
theorem dL_engine_16 : decode cL_engine 16 = .ok (.ireturn, 1) := by decide +kernel
theorem dL_engine_17 : decode cL_engine 17 = .ok (.iconst 0, 1) := by decide +kernel
theorem dL_engine_18 : decode cL_engine 18 = .ok (.ireturn, 1) := by decide +kernel
theorem dL_pond_0 : decode cL_pond 0 = .ok (.aload_n 2, 1) := by decide +kernel
theorem dL_pond_1 : decode cL_pond 1 = .ok (.iconst 0, 1) := by decide +kernel
theorem dL_pond_2 : decode cL_pond 2 = .ok (.aload_n 0, 1) := by decide +kernel
theorem dL_pond_3 : decode cL_pond 3 = .ok (.iload_n 1, 1) := by decide +kernel
theorem dL_pond_4 : decode cL_pond 4 = .ok (.invokevirtual 55, 3) := by decide +kernel
theorem dL_pond_7 : decode cL_pond 7 = .ok (.i2l, 1) := by decide +kernel
theorem dL_pond_8 : decode cL_pond 8 = .ok (.lastore, 1) := by decide +kernel
theorem dL_pond_9 : decode cL_pond 9 = .ok (.goto 6, 3) := by decide +kernel
theorem dL_pond_12 : decode cL_pond 12 = .ok (.astore_n 3, 1) := by decide +kernel
theorem dL_pond_13 : decode cL_pond 13 = .ok (.iconst 1, 1) := by decide +kernel
theorem dL_pond_14 : decode cL_pond 14 = .ok (.ireturn, 1) := by decide +kernel
theorem dL_pond_15 : decode cL_pond 15 = .ok (.iconst 0, 1) := by decide +kernel
theorem dL_pond_16 : decode cL_pond 16 = .ok (.ireturn, 1) := by decide +kernel
theorem dL_pass_0 : decode cL_pass 0 = .ok (.aload_n 2, 1) := by decide +kernel
theorem dL_pass_1 : decode cL_pass 1 = .ok (.iconst 0, 1) := by decide +kernel
theorem dL_pass_2 : decode cL_pass 2 = .ok (.aload_n 0, 1) := by decide +kernel
theorem dL_pass_3 : decode cL_pass 3 = .ok (.iload_n 1, 1) := by decide +kernel
theorem dL_pass_4 : decode cL_pass 4 = .ok (.invokevirtual 59, 3) := by decide +kernel
theorem dL_pass_7 : decode cL_pass 7 = .ok (.i2l, 1) := by decide +kernel
theorem dL_pass_8 : decode cL_pass 8 = .ok (.lastore, 1) := by decide +kernel
theorem dL_pass_9 : decode cL_pass 9 = .ok (.goto 6, 3) := by decide +kernel
theorem dL_pass_12 : decode cL_pass 12 = .ok (.astore_n 3, 1) := by decide +kernel
theorem dL_pass_13 : decode cL_pass 13 = .ok (.iconst 1, 1) := by decide +kernel
theorem dL_pass_14 : decode cL_pass 14 = .ok (.ireturn, 1) := by decide +kernel
theorem dL_pass_15 : decode cL_pass 15 = .ok (.iconst 0, 1) := by decide +kernel
theorem dL_pass_16 : decode cL_pass 16 = .ok (.ireturn, 1) := by decide +kernel
theorem dL_count_0 : decode cL_count 0 = .ok (.aload_n 2, 1) := by decide +kernel
theorem dL_count_1 : decode cL_count 1 = .ok (.iconst 0, 1) := by decide +kernel
theorem dL_count_2 : decode cL_count 2 = .ok (.aload_n 0, 1) := by decide +kernel
theorem dL_count_3 : decode cL_count 3 = .ok (.iload_n 1, 1) := by decide +kernel
theorem dL_count_4 : decode cL_count 4 = .ok (.invokevirtual 62, 3) := by decide +kernel
theorem dL_count_7 : decode cL_count 7 = .ok (.i2l, 1) := by decide +kernel
theorem dL_count_8 : decode cL_count 8 = .ok (.lastore, 1) := by decide +kernel
theorem dL_count_9 : decode cL_count 9 = .ok (.goto 6, 3) := by decide +kernel
theorem dL_count_12 : decode cL_count 12 = .ok (.astore_n 3, 1) := by decide +kernel
theorem dL_count_13 : decode cL_count 13 = .ok (.iconst 1, 1) := by decide +kernel
theorem dL_count_14 : decode cL_count 14 = .ok (.ireturn, 1) := by decide +kernel
theorem dL_count_15 : decode cL_count 15 = .ok (.iconst 0, 1) := by decide +kernel
theorem dL_count_16 : decode cL_count 16 = .ok (.ireturn, 1) := by decide +kernel
theorem dL_foresee_0 : decode cL_foresee 0 = .ok (.aload_n 3, 1) := by decide +kernel
theorem dL_foresee_1 : decode cL_foresee 1 = .ok (.iconst 0, 1) := by decide +kernel
theorem dL_foresee_2 : decode cL_foresee 2 = .ok (.aload_n 0, 1) := by decide +kernel
theorem dL_foresee_3 : decode cL_foresee 3 = .ok (.iload_n 1, 1) := by decide +kernel
theorem dL_foresee_4 : decode cL_foresee 4 = .ok (.iload_n 2, 1) := by decide +kernel
theorem dL_foresee_5 : decode cL_foresee 5 = .ok (.invokevirtual 65, 3) := by decide +kernel
theorem dL_foresee_8 : decode cL_foresee 8 = .ok (.i2l, 1) := by decide +kernel
theorem dL_foresee_9 : decode cL_foresee 9 = .ok (.lastore, 1) := by decide +kernel
theorem dL_foresee_10 : decode cL_foresee 10 = .ok (.goto 11, 3) := by decide +kernel
theorem dL_foresee_13 : decode cL_foresee 13 = .ok (.astore 4, 2) := by decide +kernel
theorem dL_foresee_15 : decode cL_foresee 15 = .ok (.iconst 1, 1) := by decide +kernel
theorem dL_foresee_16 : decode cL_foresee 16 = .ok (.ireturn, 1) := by decide +kernel
theorem dL_foresee_17 : decode cL_foresee 17 = .ok (.astore 4, 2) := by decide +kernel
theorem dL_foresee_19 : decode cL_foresee 19 = .ok (.iconst 2, 1) := by decide +kernel
theorem dL_foresee_20 : decode cL_foresee 20 = .ok (.ireturn, 1) := by decide +kernel
theorem dL_foresee_21 : decode cL_foresee 21 = .ok (.iconst 0, 1) := by decide +kernel
theorem dL_foresee_22 : decode cL_foresee 22 = .ok (.ireturn, 1) := by decide +kernel
theorem dL_weakest_0 : decode cL_weakest 0 = .ok (.aload_n 2, 1) := by decide +kernel
theorem dL_weakest_1 : decode cL_weakest 1 = .ok (.iconst 0, 1) := by decide +kernel
theorem dL_weakest_2 : decode cL_weakest 2 = .ok (.aload_n 0, 1) := by decide +kernel
theorem dL_weakest_3 : decode cL_weakest 3 = .ok (.iload_n 1, 1) := by decide +kernel
theorem dL_weakest_4 : decode cL_weakest 4 = .ok (.invokevirtual 68, 3) := by decide +kernel
theorem dL_weakest_7 : decode cL_weakest 7 = .ok (.i2l, 1) := by decide +kernel
theorem dL_weakest_8 : decode cL_weakest 8 = .ok (.lastore, 1) := by decide +kernel
theorem dL_weakest_9 : decode cL_weakest 9 = .ok (.goto 6, 3) := by decide +kernel
theorem dL_weakest_12 : decode cL_weakest 12 = .ok (.astore_n 3, 1) := by decide +kernel
theorem dL_weakest_13 : decode cL_weakest 13 = .ok (.iconst 1, 1) := by decide +kernel
theorem dL_weakest_14 : decode cL_weakest 14 = .ok (.ireturn, 1) := by decide +kernel
theorem dL_weakest_15 : decode cL_weakest 15 = .ok (.iconst 0, 1) := by decide +kernel
theorem dL_weakest_16 : decode cL_weakest 16 = .ok (.ireturn, 1) := by decide +kernel
theorem dL_advise_0 : decode cL_advise 0 = .ok (.aload_n 3, 1) := by decide +kernel
theorem dL_advise_1 : decode cL_advise 1 = .ok (.iconst 0, 1) := by decide +kernel
theorem dL_advise_2 : decode cL_advise 2 = .ok (.aload_n 0, 1) := by decide +kernel
theorem dL_advise_3 : decode cL_advise 3 = .ok (.iload_n 1, 1) := by decide +kernel
theorem dL_advise_4 : decode cL_advise 4 = .ok (.iload_n 2, 1) := by decide +kernel
theorem dL_advise_5 : decode cL_advise 5 = .ok (.invokevirtual 71, 3) := by decide +kernel
theorem dL_advise_8 : decode cL_advise 8 = .ok (.i2l, 1) := by decide +kernel
theorem dL_advise_9 : decode cL_advise 9 = .ok (.lastore, 1) := by decide +kernel
theorem dL_advise_10 : decode cL_advise 10 = .ok (.goto 11, 3) := by decide +kernel
theorem dL_advise_13 : decode cL_advise 13 = .ok (.astore 4, 2) := by decide +kernel
theorem dL_advise_15 : decode cL_advise 15 = .ok (.iconst 1, 1) := by decide +kernel
theorem dL_advise_16 : decode cL_advise 16 = .ok (.ireturn, 1) := by decide +kernel
theorem dL_advise_17 : decode cL_advise 17 = .ok (.astore 4, 2) := by decide +kernel
theorem dL_advise_19 : decode cL_advise 19 = .ok (.iconst 2, 1) := by decide +kernel
theorem dL_advise_20 : decode cL_advise 20 = .ok (.ireturn, 1) := by decide +kernel
theorem dL_advise_21 : decode cL_advise 21 = .ok (.iconst 0, 1) := by decide +kernel
theorem dL_advise_22 : decode cL_advise 22 = .ok (.ireturn, 1) := by decide +kernel
theorem dL_law_0 : decode cL_law 0 = .ok (.new 8, 3) := by decide +kernel
theorem dL_law_3 : decode cL_law 3 = .ok (.dup, 1) := by decide +kernel
theorem dL_law_4 : decode cL_law 4 = .ok (.invokespecial 74, 3) := by decide +kernel
theorem dL_law_7 : decode cL_law 7 = .ok (.astore_n 1, 1) := by decide +kernel
theorem dL_law_8 : decode cL_law 8 = .ok (.new 75, 3) := by decide +kernel
theorem dL_law_11 : decode cL_law 11 = .ok (.dup, 1) := by decide +kernel
theorem dL_law_12 : decode cL_law 12 = .ok (.invokespecial 77, 3) := by decide +kernel
theorem dL_law_15 : decode cL_law 15 = .ok (.astore_n 2, 1) := by decide +kernel
theorem dL_law_16 : decode cL_law 16 = .ok (.iconst 1, 1) := by decide +kernel
theorem dL_law_17 : decode cL_law 17 = .ok (.newarray .long, 2) := by decide +kernel
theorem dL_law_19 : decode cL_law 19 = .ok (.astore_n 3, 1) := by decide +kernel
theorem dL_law_20 : decode cL_law 20 = .ok (.iconst 0, 1) := by decide +kernel
theorem dL_law_21 : decode cL_law 21 = .ok (.istore 4, 2) := by decide +kernel
theorem dL_law_23 : decode cL_law 23 = .ok (.iload 4, 2) := by decide +kernel
theorem dL_law_25 : decode cL_law 25 = .ok (.aload_n 0, 1) := by decide +kernel
theorem dL_law_26 : decode cL_law 26 = .ok (.arraylength, 1) := by decide +kernel
theorem dL_law_27 : decode cL_law 27 = .ok (.iconst 5, 1) := by decide +kernel
theorem dL_law_28 : decode cL_law 28 = .ok (.isub, 1) := by decide +kernel
theorem dL_law_29 : decode cL_law 29 = .ok (.if_icmp .gt 1436, 3) := by decide +kernel
theorem dL_law_32 : decode cL_law 32 = .ok (.aload_n 0, 1) := by decide +kernel
theorem dL_law_33 : decode cL_law 33 = .ok (.iload 4, 2) := by decide +kernel
theorem dL_law_35 : decode cL_law 35 = .ok (.iaload, 1) := by decide +kernel
theorem dL_law_36 : decode cL_law 36 = .ok (.bipush 31, 2) := by decide +kernel
theorem dL_law_38 : decode cL_law 38 = .ok (.iand, 1) := by decide +kernel
theorem dL_law_39 : decode cL_law 39 = .ok (.tableswitch 1420 0 20 #[97, 189, 269, 337, 417, 485, 577, 645, 725, 793, 861, 924, 992, 1048, 1104, 1160, 1228, 1241, 1297, 1365, 1406], 97) := by decide +kernel
theorem dL_law_136 : decode cL_law 136 = .ok (.aload_n 1, 1) := by decide +kernel
theorem dL_law_137 : decode cL_law 137 = .ok (.aload_n 0, 1) := by decide +kernel
theorem dL_law_138 : decode cL_law 138 = .ok (.iload 4, 2) := by decide +kernel
theorem dL_law_140 : decode cL_law 140 = .ok (.iconst 1, 1) := by decide +kernel
theorem dL_law_141 : decode cL_law 141 = .ok (.iadd, 1) := by decide +kernel
theorem dL_law_142 : decode cL_law 142 = .ok (.iaload, 1) := by decide +kernel
theorem dL_law_143 : decode cL_law 143 = .ok (.aload_n 0, 1) := by decide +kernel
theorem dL_law_144 : decode cL_law 144 = .ok (.iload 4, 2) := by decide +kernel
theorem dL_law_146 : decode cL_law 146 = .ok (.iconst 2, 1) := by decide +kernel
theorem dL_law_147 : decode cL_law 147 = .ok (.iadd, 1) := by decide +kernel
theorem dL_law_148 : decode cL_law 148 = .ok (.iaload, 1) := by decide +kernel
theorem dL_law_149 : decode cL_law 149 = .ok (.aload_n 0, 1) := by decide +kernel
theorem dL_law_150 : decode cL_law 150 = .ok (.iload 4, 2) := by decide +kernel
theorem dL_law_152 : decode cL_law 152 = .ok (.iconst 3, 1) := by decide +kernel
theorem dL_law_153 : decode cL_law 153 = .ok (.iadd, 1) := by decide +kernel
theorem dL_law_154 : decode cL_law 154 = .ok (.iaload, 1) := by decide +kernel
theorem dL_law_155 : decode cL_law 155 = .ok (.aload_n 0, 1) := by decide +kernel
theorem dL_law_156 : decode cL_law 156 = .ok (.iload 4, 2) := by decide +kernel
theorem dL_law_158 : decode cL_law 158 = .ok (.iconst 4, 1) := by decide +kernel
theorem dL_law_159 : decode cL_law 159 = .ok (.iadd, 1) := by decide +kernel
theorem dL_law_160 : decode cL_law 160 = .ok (.iaload, 1) := by decide +kernel
theorem dL_law_161 : decode cL_law 161 = .ok (.aload_n 3, 1) := by decide +kernel
theorem dL_law_162 : decode cL_law 162 = .ok (.invokestatic 78, 3) := by decide +kernel
theorem dL_law_165 : decode cL_law 165 = .ok (.istore 5, 2) := by decide +kernel
theorem dL_law_167 : decode cL_law 167 = .ok (.aload_n 2, 1) := by decide +kernel
theorem dL_law_168 : decode cL_law 168 = .ok (.aload_n 0, 1) := by decide +kernel
theorem dL_law_169 : decode cL_law 169 = .ok (.iload 4, 2) := by decide +kernel
theorem dL_law_171 : decode cL_law 171 = .ok (.iconst 1, 1) := by decide +kernel
theorem dL_law_172 : decode cL_law 172 = .ok (.iadd, 1) := by decide +kernel
theorem dL_law_173 : decode cL_law 173 = .ok (.iaload, 1) := by decide +kernel
theorem dL_law_174 : decode cL_law 174 = .ok (.aload_n 0, 1) := by decide +kernel
theorem dL_law_175 : decode cL_law 175 = .ok (.iload 4, 2) := by decide +kernel
theorem dL_law_177 : decode cL_law 177 = .ok (.iconst 2, 1) := by decide +kernel
theorem dL_law_178 : decode cL_law 178 = .ok (.iadd, 1) := by decide +kernel
theorem dL_law_179 : decode cL_law 179 = .ok (.iaload, 1) := by decide +kernel
theorem dL_law_180 : decode cL_law 180 = .ok (.aload_n 0, 1) := by decide +kernel
theorem dL_law_181 : decode cL_law 181 = .ok (.iload 4, 2) := by decide +kernel
theorem dL_law_183 : decode cL_law 183 = .ok (.iconst 3, 1) := by decide +kernel
theorem dL_law_184 : decode cL_law 184 = .ok (.iadd, 1) := by decide +kernel
theorem dL_law_185 : decode cL_law 185 = .ok (.iaload, 1) := by decide +kernel
theorem dL_law_186 : decode cL_law 186 = .ok (.aload_n 0, 1) := by decide +kernel
theorem dL_law_187 : decode cL_law 187 = .ok (.iload 4, 2) := by decide +kernel
theorem dL_law_189 : decode cL_law 189 = .ok (.iconst 4, 1) := by decide +kernel
theorem dL_law_190 : decode cL_law 190 = .ok (.iadd, 1) := by decide +kernel
theorem dL_law_191 : decode cL_law 191 = .ok (.iaload, 1) := by decide +kernel
theorem dL_law_192 : decode cL_law 192 = .ok (.invokevirtual 83, 3) := by decide +kernel
theorem dL_law_195 : decode cL_law 195 = .ok (.istore 6, 2) := by decide +kernel
theorem dL_law_197 : decode cL_law 197 = .ok (.aload_n 2, 1) := by decide +kernel
theorem dL_law_198 : decode cL_law 198 = .ok (.invokevirtual 84, 3) := by decide +kernel
theorem dL_law_201 : decode cL_law 201 = .ok (.iload 5, 2) := by decide +kernel
theorem dL_law_203 : decode cL_law 203 = .ok (.if_icmp .eq 5, 3) := by decide +kernel
theorem dL_law_206 : decode cL_law 206 = .ok (.iconst 0, 1) := by decide +kernel
theorem dL_law_207 : decode cL_law 207 = .ok (.ireturn, 1) := by decide +kernel
theorem dL_law_208 : decode cL_law 208 = .ok (.iload 5, 2) := by decide +kernel
theorem dL_law_210 : decode cL_law 210 = .ok (.ifCond .ne 15, 3) := by decide +kernel
theorem dL_law_213 : decode cL_law 213 = .ok (.aload_n 3, 1) := by decide +kernel
theorem dL_law_214 : decode cL_law 214 = .ok (.iconst 0, 1) := by decide +kernel
theorem dL_law_215 : decode cL_law 215 = .ok (.laload, 1) := by decide +kernel
theorem dL_law_216 : decode cL_law 216 = .ok (.iload 6, 2) := by decide +kernel
theorem dL_law_218 : decode cL_law 218 = .ok (.i2l, 1) := by decide +kernel
theorem dL_law_219 : decode cL_law 219 = .ok (.lcmp, 1) := by decide +kernel
theorem dL_law_220 : decode cL_law 220 = .ok (.ifCond .eq 5, 3) := by decide +kernel
theorem dL_law_223 : decode cL_law 223 = .ok (.iconst 0, 1) := by decide +kernel
theorem dL_law_224 : decode cL_law 224 = .ok (.ireturn, 1) := by decide +kernel
theorem dL_law_225 : decode cL_law 225 = .ok (.goto 1234, 3) := by decide +kernel
theorem dL_law_228 : decode cL_law 228 = .ok (.aload_n 1, 1) := by decide +kernel
theorem dL_law_229 : decode cL_law 229 = .ok (.aload_n 0, 1) := by decide +kernel
theorem dL_law_230 : decode cL_law 230 = .ok (.iload 4, 2) := by decide +kernel
theorem dL_law_232 : decode cL_law 232 = .ok (.iconst 1, 1) := by decide +kernel
theorem dL_law_233 : decode cL_law 233 = .ok (.iadd, 1) := by decide +kernel
theorem dL_law_234 : decode cL_law 234 = .ok (.iaload, 1) := by decide +kernel
theorem dL_law_235 : decode cL_law 235 = .ok (.aload_n 0, 1) := by decide +kernel
theorem dL_law_236 : decode cL_law 236 = .ok (.iload 4, 2) := by decide +kernel
theorem dL_law_238 : decode cL_law 238 = .ok (.iconst 2, 1) := by decide +kernel
theorem dL_law_239 : decode cL_law 239 = .ok (.iadd, 1) := by decide +kernel
theorem dL_law_240 : decode cL_law 240 = .ok (.iaload, 1) := by decide +kernel
theorem dL_law_241 : decode cL_law 241 = .ok (.aload_n 0, 1) := by decide +kernel
theorem dL_law_242 : decode cL_law 242 = .ok (.iload 4, 2) := by decide +kernel
theorem dL_law_244 : decode cL_law 244 = .ok (.iconst 3, 1) := by decide +kernel
theorem dL_law_245 : decode cL_law 245 = .ok (.iadd, 1) := by decide +kernel
theorem dL_law_246 : decode cL_law 246 = .ok (.iaload, 1) := by decide +kernel
theorem dL_law_247 : decode cL_law 247 = .ok (.aload_n 3, 1) := by decide +kernel
theorem dL_law_248 : decode cL_law 248 = .ok (.invokestatic 88, 3) := by decide +kernel
theorem dL_law_251 : decode cL_law 251 = .ok (.istore 5, 2) := by decide +kernel
theorem dL_law_253 : decode cL_law 253 = .ok (.aload_n 2, 1) := by decide +kernel
theorem dL_law_254 : decode cL_law 254 = .ok (.aload_n 0, 1) := by decide +kernel
theorem dL_law_255 : decode cL_law 255 = .ok (.iload 4, 2) := by decide +kernel
theorem dL_law_257 : decode cL_law 257 = .ok (.iconst 1, 1) := by decide +kernel
theorem dL_law_258 : decode cL_law 258 = .ok (.iadd, 1) := by decide +kernel
theorem dL_law_259 : decode cL_law 259 = .ok (.iaload, 1) := by decide +kernel
theorem dL_law_260 : decode cL_law 260 = .ok (.aload_n 0, 1) := by decide +kernel
theorem dL_law_261 : decode cL_law 261 = .ok (.iload 4, 2) := by decide +kernel
theorem dL_law_263 : decode cL_law 263 = .ok (.iconst 2, 1) := by decide +kernel
theorem dL_law_264 : decode cL_law 264 = .ok (.iadd, 1) := by decide +kernel
theorem dL_law_265 : decode cL_law 265 = .ok (.iaload, 1) := by decide +kernel
theorem dL_law_266 : decode cL_law 266 = .ok (.aload_n 0, 1) := by decide +kernel
theorem dL_law_267 : decode cL_law 267 = .ok (.iload 4, 2) := by decide +kernel
theorem dL_law_269 : decode cL_law 269 = .ok (.iconst 3, 1) := by decide +kernel
theorem dL_law_270 : decode cL_law 270 = .ok (.iadd, 1) := by decide +kernel
theorem dL_law_271 : decode cL_law 271 = .ok (.iaload, 1) := by decide +kernel
theorem dL_law_272 : decode cL_law 272 = .ok (.invokevirtual 91, 3) := by decide +kernel
theorem dL_law_275 : decode cL_law 275 = .ok (.istore 6, 2) := by decide +kernel
theorem dL_law_277 : decode cL_law 277 = .ok (.aload_n 2, 1) := by decide +kernel
theorem dL_law_278 : decode cL_law 278 = .ok (.invokevirtual 84, 3) := by decide +kernel
theorem dL_law_281 : decode cL_law 281 = .ok (.iload 5, 2) := by decide +kernel
theorem dL_law_283 : decode cL_law 283 = .ok (.if_icmp .eq 5, 3) := by decide +kernel
theorem dL_law_286 : decode cL_law 286 = .ok (.iconst 0, 1) := by decide +kernel
theorem dL_law_287 : decode cL_law 287 = .ok (.ireturn, 1) := by decide +kernel
theorem dL_law_288 : decode cL_law 288 = .ok (.iload 5, 2) := by decide +kernel
theorem dL_law_290 : decode cL_law 290 = .ok (.ifCond .ne 15, 3) := by decide +kernel
theorem dL_law_293 : decode cL_law 293 = .ok (.aload_n 3, 1) := by decide +kernel
theorem dL_law_294 : decode cL_law 294 = .ok (.iconst 0, 1) := by decide +kernel
theorem dL_law_295 : decode cL_law 295 = .ok (.laload, 1) := by decide +kernel
theorem dL_law_296 : decode cL_law 296 = .ok (.iload 6, 2) := by decide +kernel
theorem dL_law_298 : decode cL_law 298 = .ok (.i2l, 1) := by decide +kernel
theorem dL_law_299 : decode cL_law 299 = .ok (.lcmp, 1) := by decide +kernel
theorem dL_law_300 : decode cL_law 300 = .ok (.ifCond .eq 5, 3) := by decide +kernel
theorem dL_law_303 : decode cL_law 303 = .ok (.iconst 0, 1) := by decide +kernel
theorem dL_law_304 : decode cL_law 304 = .ok (.ireturn, 1) := by decide +kernel
theorem dL_law_305 : decode cL_law 305 = .ok (.goto 1154, 3) := by decide +kernel
theorem dL_law_308 : decode cL_law 308 = .ok (.aload_n 1, 1) := by decide +kernel
theorem dL_law_309 : decode cL_law 309 = .ok (.aload_n 0, 1) := by decide +kernel
theorem dL_law_310 : decode cL_law 310 = .ok (.iload 4, 2) := by decide +kernel
theorem dL_law_312 : decode cL_law 312 = .ok (.iconst 1, 1) := by decide +kernel
theorem dL_law_313 : decode cL_law 313 = .ok (.iadd, 1) := by decide +kernel
theorem dL_law_314 : decode cL_law 314 = .ok (.iaload, 1) := by decide +kernel
theorem dL_law_315 : decode cL_law 315 = .ok (.aload_n 0, 1) := by decide +kernel
theorem dL_law_316 : decode cL_law 316 = .ok (.iload 4, 2) := by decide +kernel
theorem dL_law_318 : decode cL_law 318 = .ok (.iconst 2, 1) := by decide +kernel
theorem dL_law_319 : decode cL_law 319 = .ok (.iadd, 1) := by decide +kernel
theorem dL_law_320 : decode cL_law 320 = .ok (.iaload, 1) := by decide +kernel
theorem dL_law_321 : decode cL_law 321 = .ok (.aload_n 3, 1) := by decide +kernel
theorem dL_law_322 : decode cL_law 322 = .ok (.invokestatic 92, 3) := by decide +kernel
theorem dL_law_325 : decode cL_law 325 = .ok (.istore 5, 2) := by decide +kernel
theorem dL_law_327 : decode cL_law 327 = .ok (.aload_n 2, 1) := by decide +kernel
theorem dL_law_328 : decode cL_law 328 = .ok (.aload_n 0, 1) := by decide +kernel
theorem dL_law_329 : decode cL_law 329 = .ok (.iload 4, 2) := by decide +kernel
theorem dL_law_331 : decode cL_law 331 = .ok (.iconst 1, 1) := by decide +kernel
theorem dL_law_332 : decode cL_law 332 = .ok (.iadd, 1) := by decide +kernel
theorem dL_law_333 : decode cL_law 333 = .ok (.iaload, 1) := by decide +kernel
theorem dL_law_334 : decode cL_law 334 = .ok (.aload_n 0, 1) := by decide +kernel
theorem dL_law_335 : decode cL_law 335 = .ok (.iload 4, 2) := by decide +kernel
theorem dL_law_337 : decode cL_law 337 = .ok (.iconst 2, 1) := by decide +kernel
theorem dL_law_338 : decode cL_law 338 = .ok (.iadd, 1) := by decide +kernel
theorem dL_law_339 : decode cL_law 339 = .ok (.iaload, 1) := by decide +kernel
theorem dL_law_340 : decode cL_law 340 = .ok (.invokevirtual 95, 3) := by decide +kernel
theorem dL_law_343 : decode cL_law 343 = .ok (.istore 6, 2) := by decide +kernel
theorem dL_law_345 : decode cL_law 345 = .ok (.aload_n 2, 1) := by decide +kernel
theorem dL_law_346 : decode cL_law 346 = .ok (.invokevirtual 84, 3) := by decide +kernel
theorem dL_law_349 : decode cL_law 349 = .ok (.iload 5, 2) := by decide +kernel
theorem dL_law_351 : decode cL_law 351 = .ok (.if_icmp .eq 5, 3) := by decide +kernel
theorem dL_law_354 : decode cL_law 354 = .ok (.iconst 0, 1) := by decide +kernel
theorem dL_law_355 : decode cL_law 355 = .ok (.ireturn, 1) := by decide +kernel
theorem dL_law_356 : decode cL_law 356 = .ok (.iload 5, 2) := by decide +kernel
theorem dL_law_358 : decode cL_law 358 = .ok (.ifCond .ne 15, 3) := by decide +kernel
theorem dL_law_361 : decode cL_law 361 = .ok (.aload_n 3, 1) := by decide +kernel
theorem dL_law_362 : decode cL_law 362 = .ok (.iconst 0, 1) := by decide +kernel
theorem dL_law_363 : decode cL_law 363 = .ok (.laload, 1) := by decide +kernel
theorem dL_law_364 : decode cL_law 364 = .ok (.iload 6, 2) := by decide +kernel
theorem dL_law_366 : decode cL_law 366 = .ok (.i2l, 1) := by decide +kernel
theorem dL_law_367 : decode cL_law 367 = .ok (.lcmp, 1) := by decide +kernel
theorem dL_law_368 : decode cL_law 368 = .ok (.ifCond .eq 5, 3) := by decide +kernel
theorem dL_law_371 : decode cL_law 371 = .ok (.iconst 0, 1) := by decide +kernel
theorem dL_law_372 : decode cL_law 372 = .ok (.ireturn, 1) := by decide +kernel
theorem dL_law_373 : decode cL_law 373 = .ok (.goto 1086, 3) := by decide +kernel
theorem dL_law_376 : decode cL_law 376 = .ok (.aload_n 1, 1) := by decide +kernel
theorem dL_law_377 : decode cL_law 377 = .ok (.aload_n 0, 1) := by decide +kernel
theorem dL_law_378 : decode cL_law 378 = .ok (.iload 4, 2) := by decide +kernel
theorem dL_law_380 : decode cL_law 380 = .ok (.iconst 1, 1) := by decide +kernel
theorem dL_law_381 : decode cL_law 381 = .ok (.iadd, 1) := by decide +kernel
theorem dL_law_382 : decode cL_law 382 = .ok (.iaload, 1) := by decide +kernel
theorem dL_law_383 : decode cL_law 383 = .ok (.aload_n 0, 1) := by decide +kernel
theorem dL_law_384 : decode cL_law 384 = .ok (.iload 4, 2) := by decide +kernel
theorem dL_law_386 : decode cL_law 386 = .ok (.iconst 2, 1) := by decide +kernel
theorem dL_law_387 : decode cL_law 387 = .ok (.iadd, 1) := by decide +kernel
theorem dL_law_388 : decode cL_law 388 = .ok (.iaload, 1) := by decide +kernel
theorem dL_law_389 : decode cL_law 389 = .ok (.aload_n 0, 1) := by decide +kernel
theorem dL_law_390 : decode cL_law 390 = .ok (.iload 4, 2) := by decide +kernel
theorem dL_law_392 : decode cL_law 392 = .ok (.iconst 3, 1) := by decide +kernel
theorem dL_law_393 : decode cL_law 393 = .ok (.iadd, 1) := by decide +kernel
theorem dL_law_394 : decode cL_law 394 = .ok (.iaload, 1) := by decide +kernel
theorem dL_law_395 : decode cL_law 395 = .ok (.aload_n 3, 1) := by decide +kernel
theorem dL_law_396 : decode cL_law 396 = .ok (.invokestatic 96, 3) := by decide +kernel
theorem dL_law_399 : decode cL_law 399 = .ok (.istore 5, 2) := by decide +kernel
theorem dL_law_401 : decode cL_law 401 = .ok (.aload_n 2, 1) := by decide +kernel
theorem dL_law_402 : decode cL_law 402 = .ok (.aload_n 0, 1) := by decide +kernel
theorem dL_law_403 : decode cL_law 403 = .ok (.iload 4, 2) := by decide +kernel
theorem dL_law_405 : decode cL_law 405 = .ok (.iconst 1, 1) := by decide +kernel
theorem dL_law_406 : decode cL_law 406 = .ok (.iadd, 1) := by decide +kernel
theorem dL_law_407 : decode cL_law 407 = .ok (.iaload, 1) := by decide +kernel
theorem dL_law_408 : decode cL_law 408 = .ok (.aload_n 0, 1) := by decide +kernel
theorem dL_law_409 : decode cL_law 409 = .ok (.iload 4, 2) := by decide +kernel
theorem dL_law_411 : decode cL_law 411 = .ok (.iconst 2, 1) := by decide +kernel
theorem dL_law_412 : decode cL_law 412 = .ok (.iadd, 1) := by decide +kernel
theorem dL_law_413 : decode cL_law 413 = .ok (.iaload, 1) := by decide +kernel
theorem dL_law_414 : decode cL_law 414 = .ok (.aload_n 0, 1) := by decide +kernel
theorem dL_law_415 : decode cL_law 415 = .ok (.iload 4, 2) := by decide +kernel
theorem dL_law_417 : decode cL_law 417 = .ok (.iconst 3, 1) := by decide +kernel
theorem dL_law_418 : decode cL_law 418 = .ok (.iadd, 1) := by decide +kernel
theorem dL_law_419 : decode cL_law 419 = .ok (.iaload, 1) := by decide +kernel
theorem dL_law_420 : decode cL_law 420 = .ok (.invokevirtual 98, 3) := by decide +kernel
theorem dL_law_423 : decode cL_law 423 = .ok (.istore 6, 2) := by decide +kernel
theorem dL_law_425 : decode cL_law 425 = .ok (.aload_n 2, 1) := by decide +kernel
theorem dL_law_426 : decode cL_law 426 = .ok (.invokevirtual 84, 3) := by decide +kernel
theorem dL_law_429 : decode cL_law 429 = .ok (.iload 5, 2) := by decide +kernel
theorem dL_law_431 : decode cL_law 431 = .ok (.if_icmp .eq 5, 3) := by decide +kernel
theorem dL_law_434 : decode cL_law 434 = .ok (.iconst 0, 1) := by decide +kernel
theorem dL_law_435 : decode cL_law 435 = .ok (.ireturn, 1) := by decide +kernel
theorem dL_law_436 : decode cL_law 436 = .ok (.iload 5, 2) := by decide +kernel
theorem dL_law_438 : decode cL_law 438 = .ok (.ifCond .ne 15, 3) := by decide +kernel
theorem dL_law_441 : decode cL_law 441 = .ok (.aload_n 3, 1) := by decide +kernel
theorem dL_law_442 : decode cL_law 442 = .ok (.iconst 0, 1) := by decide +kernel
theorem dL_law_443 : decode cL_law 443 = .ok (.laload, 1) := by decide +kernel
theorem dL_law_444 : decode cL_law 444 = .ok (.iload 6, 2) := by decide +kernel
theorem dL_law_446 : decode cL_law 446 = .ok (.i2l, 1) := by decide +kernel
theorem dL_law_447 : decode cL_law 447 = .ok (.lcmp, 1) := by decide +kernel
theorem dL_law_448 : decode cL_law 448 = .ok (.ifCond .eq 5, 3) := by decide +kernel
theorem dL_law_451 : decode cL_law 451 = .ok (.iconst 0, 1) := by decide +kernel
theorem dL_law_452 : decode cL_law 452 = .ok (.ireturn, 1) := by decide +kernel
theorem dL_law_453 : decode cL_law 453 = .ok (.goto 1006, 3) := by decide +kernel
theorem dL_law_456 : decode cL_law 456 = .ok (.aload_n 1, 1) := by decide +kernel
theorem dL_law_457 : decode cL_law 457 = .ok (.aload_n 0, 1) := by decide +kernel
theorem dL_law_458 : decode cL_law 458 = .ok (.iload 4, 2) := by decide +kernel
theorem dL_law_460 : decode cL_law 460 = .ok (.iconst 1, 1) := by decide +kernel
theorem dL_law_461 : decode cL_law 461 = .ok (.iadd, 1) := by decide +kernel
theorem dL_law_462 : decode cL_law 462 = .ok (.iaload, 1) := by decide +kernel
theorem dL_law_463 : decode cL_law 463 = .ok (.aload_n 0, 1) := by decide +kernel
theorem dL_law_464 : decode cL_law 464 = .ok (.iload 4, 2) := by decide +kernel
theorem dL_law_466 : decode cL_law 466 = .ok (.iconst 2, 1) := by decide +kernel
theorem dL_law_467 : decode cL_law 467 = .ok (.iadd, 1) := by decide +kernel
theorem dL_law_468 : decode cL_law 468 = .ok (.iaload, 1) := by decide +kernel
theorem dL_law_469 : decode cL_law 469 = .ok (.aload_n 3, 1) := by decide +kernel
theorem dL_law_470 : decode cL_law 470 = .ok (.invokestatic 99, 3) := by decide +kernel
theorem dL_law_473 : decode cL_law 473 = .ok (.istore 5, 2) := by decide +kernel
theorem dL_law_475 : decode cL_law 475 = .ok (.aload_n 2, 1) := by decide +kernel
theorem dL_law_476 : decode cL_law 476 = .ok (.aload_n 0, 1) := by decide +kernel
theorem dL_law_477 : decode cL_law 477 = .ok (.iload 4, 2) := by decide +kernel
theorem dL_law_479 : decode cL_law 479 = .ok (.iconst 1, 1) := by decide +kernel
theorem dL_law_480 : decode cL_law 480 = .ok (.iadd, 1) := by decide +kernel
theorem dL_law_481 : decode cL_law 481 = .ok (.iaload, 1) := by decide +kernel
theorem dL_law_482 : decode cL_law 482 = .ok (.aload_n 0, 1) := by decide +kernel
theorem dL_law_483 : decode cL_law 483 = .ok (.iload 4, 2) := by decide +kernel
theorem dL_law_485 : decode cL_law 485 = .ok (.iconst 2, 1) := by decide +kernel
theorem dL_law_486 : decode cL_law 486 = .ok (.iadd, 1) := by decide +kernel
theorem dL_law_487 : decode cL_law 487 = .ok (.iaload, 1) := by decide +kernel
theorem dL_law_488 : decode cL_law 488 = .ok (.invokevirtual 101, 3) := by decide +kernel
theorem dL_law_491 : decode cL_law 491 = .ok (.istore 6, 2) := by decide +kernel
theorem dL_law_493 : decode cL_law 493 = .ok (.aload_n 2, 1) := by decide +kernel
theorem dL_law_494 : decode cL_law 494 = .ok (.invokevirtual 84, 3) := by decide +kernel
theorem dL_law_497 : decode cL_law 497 = .ok (.iload 5, 2) := by decide +kernel
theorem dL_law_499 : decode cL_law 499 = .ok (.if_icmp .eq 5, 3) := by decide +kernel
theorem dL_law_502 : decode cL_law 502 = .ok (.iconst 0, 1) := by decide +kernel
theorem dL_law_503 : decode cL_law 503 = .ok (.ireturn, 1) := by decide +kernel
theorem dL_law_504 : decode cL_law 504 = .ok (.iload 5, 2) := by decide +kernel
theorem dL_law_506 : decode cL_law 506 = .ok (.ifCond .ne 15, 3) := by decide +kernel
theorem dL_law_509 : decode cL_law 509 = .ok (.aload_n 3, 1) := by decide +kernel
theorem dL_law_510 : decode cL_law 510 = .ok (.iconst 0, 1) := by decide +kernel
theorem dL_law_511 : decode cL_law 511 = .ok (.laload, 1) := by decide +kernel
theorem dL_law_512 : decode cL_law 512 = .ok (.iload 6, 2) := by decide +kernel
theorem dL_law_514 : decode cL_law 514 = .ok (.i2l, 1) := by decide +kernel
theorem dL_law_515 : decode cL_law 515 = .ok (.lcmp, 1) := by decide +kernel
theorem dL_law_516 : decode cL_law 516 = .ok (.ifCond .eq 5, 3) := by decide +kernel
theorem dL_law_519 : decode cL_law 519 = .ok (.iconst 0, 1) := by decide +kernel
theorem dL_law_520 : decode cL_law 520 = .ok (.ireturn, 1) := by decide +kernel
theorem dL_law_521 : decode cL_law 521 = .ok (.goto 938, 3) := by decide +kernel
theorem dL_law_524 : decode cL_law 524 = .ok (.aload_n 1, 1) := by decide +kernel
theorem dL_law_525 : decode cL_law 525 = .ok (.aload_n 0, 1) := by decide +kernel
theorem dL_law_526 : decode cL_law 526 = .ok (.iload 4, 2) := by decide +kernel
theorem dL_law_528 : decode cL_law 528 = .ok (.iconst 1, 1) := by decide +kernel
theorem dL_law_529 : decode cL_law 529 = .ok (.iadd, 1) := by decide +kernel
theorem dL_law_530 : decode cL_law 530 = .ok (.iaload, 1) := by decide +kernel
theorem dL_law_531 : decode cL_law 531 = .ok (.aload_n 0, 1) := by decide +kernel
theorem dL_law_532 : decode cL_law 532 = .ok (.iload 4, 2) := by decide +kernel
theorem dL_law_534 : decode cL_law 534 = .ok (.iconst 2, 1) := by decide +kernel
theorem dL_law_535 : decode cL_law 535 = .ok (.iadd, 1) := by decide +kernel
theorem dL_law_536 : decode cL_law 536 = .ok (.iaload, 1) := by decide +kernel
theorem dL_law_537 : decode cL_law 537 = .ok (.aload_n 0, 1) := by decide +kernel
theorem dL_law_538 : decode cL_law 538 = .ok (.iload 4, 2) := by decide +kernel
theorem dL_law_540 : decode cL_law 540 = .ok (.iconst 3, 1) := by decide +kernel
theorem dL_law_541 : decode cL_law 541 = .ok (.iadd, 1) := by decide +kernel
theorem dL_law_542 : decode cL_law 542 = .ok (.iaload, 1) := by decide +kernel
theorem dL_law_543 : decode cL_law 543 = .ok (.aload_n 0, 1) := by decide +kernel
theorem dL_law_544 : decode cL_law 544 = .ok (.iload 4, 2) := by decide +kernel
theorem dL_law_546 : decode cL_law 546 = .ok (.iconst 4, 1) := by decide +kernel
theorem dL_law_547 : decode cL_law 547 = .ok (.iadd, 1) := by decide +kernel
theorem dL_law_548 : decode cL_law 548 = .ok (.iaload, 1) := by decide +kernel
theorem dL_law_549 : decode cL_law 549 = .ok (.aload_n 3, 1) := by decide +kernel
theorem dL_law_550 : decode cL_law 550 = .ok (.invokestatic 102, 3) := by decide +kernel
theorem dL_law_553 : decode cL_law 553 = .ok (.istore 5, 2) := by decide +kernel
theorem dL_law_555 : decode cL_law 555 = .ok (.aload_n 2, 1) := by decide +kernel
theorem dL_law_556 : decode cL_law 556 = .ok (.aload_n 0, 1) := by decide +kernel
theorem dL_law_557 : decode cL_law 557 = .ok (.iload 4, 2) := by decide +kernel
theorem dL_law_559 : decode cL_law 559 = .ok (.iconst 1, 1) := by decide +kernel
theorem dL_law_560 : decode cL_law 560 = .ok (.iadd, 1) := by decide +kernel
theorem dL_law_561 : decode cL_law 561 = .ok (.iaload, 1) := by decide +kernel
theorem dL_law_562 : decode cL_law 562 = .ok (.aload_n 0, 1) := by decide +kernel
theorem dL_law_563 : decode cL_law 563 = .ok (.iload 4, 2) := by decide +kernel
theorem dL_law_565 : decode cL_law 565 = .ok (.iconst 2, 1) := by decide +kernel
theorem dL_law_566 : decode cL_law 566 = .ok (.iadd, 1) := by decide +kernel
theorem dL_law_567 : decode cL_law 567 = .ok (.iaload, 1) := by decide +kernel
theorem dL_law_568 : decode cL_law 568 = .ok (.aload_n 0, 1) := by decide +kernel
theorem dL_law_569 : decode cL_law 569 = .ok (.iload 4, 2) := by decide +kernel
theorem dL_law_571 : decode cL_law 571 = .ok (.iconst 3, 1) := by decide +kernel
theorem dL_law_572 : decode cL_law 572 = .ok (.iadd, 1) := by decide +kernel
theorem dL_law_573 : decode cL_law 573 = .ok (.iaload, 1) := by decide +kernel
theorem dL_law_574 : decode cL_law 574 = .ok (.aload_n 0, 1) := by decide +kernel
theorem dL_law_575 : decode cL_law 575 = .ok (.iload 4, 2) := by decide +kernel
theorem dL_law_577 : decode cL_law 577 = .ok (.iconst 4, 1) := by decide +kernel
theorem dL_law_578 : decode cL_law 578 = .ok (.iadd, 1) := by decide +kernel
theorem dL_law_579 : decode cL_law 579 = .ok (.iaload, 1) := by decide +kernel
theorem dL_law_580 : decode cL_law 580 = .ok (.invokevirtual 104, 3) := by decide +kernel
theorem dL_law_583 : decode cL_law 583 = .ok (.istore 6, 2) := by decide +kernel
theorem dL_law_585 : decode cL_law 585 = .ok (.aload_n 2, 1) := by decide +kernel
theorem dL_law_586 : decode cL_law 586 = .ok (.invokevirtual 84, 3) := by decide +kernel
theorem dL_law_589 : decode cL_law 589 = .ok (.iload 5, 2) := by decide +kernel
theorem dL_law_591 : decode cL_law 591 = .ok (.if_icmp .eq 5, 3) := by decide +kernel
theorem dL_law_594 : decode cL_law 594 = .ok (.iconst 0, 1) := by decide +kernel
theorem dL_law_595 : decode cL_law 595 = .ok (.ireturn, 1) := by decide +kernel
theorem dL_law_596 : decode cL_law 596 = .ok (.iload 5, 2) := by decide +kernel
theorem dL_law_598 : decode cL_law 598 = .ok (.ifCond .ne 15, 3) := by decide +kernel
theorem dL_law_601 : decode cL_law 601 = .ok (.aload_n 3, 1) := by decide +kernel
theorem dL_law_602 : decode cL_law 602 = .ok (.iconst 0, 1) := by decide +kernel
theorem dL_law_603 : decode cL_law 603 = .ok (.laload, 1) := by decide +kernel
theorem dL_law_604 : decode cL_law 604 = .ok (.iload 6, 2) := by decide +kernel
theorem dL_law_606 : decode cL_law 606 = .ok (.i2l, 1) := by decide +kernel
theorem dL_law_607 : decode cL_law 607 = .ok (.lcmp, 1) := by decide +kernel
theorem dL_law_608 : decode cL_law 608 = .ok (.ifCond .eq 5, 3) := by decide +kernel
theorem dL_law_611 : decode cL_law 611 = .ok (.iconst 0, 1) := by decide +kernel
theorem dL_law_612 : decode cL_law 612 = .ok (.ireturn, 1) := by decide +kernel
theorem dL_law_613 : decode cL_law 613 = .ok (.goto 846, 3) := by decide +kernel
theorem dL_law_616 : decode cL_law 616 = .ok (.aload_n 1, 1) := by decide +kernel
theorem dL_law_617 : decode cL_law 617 = .ok (.aload_n 0, 1) := by decide +kernel
theorem dL_law_618 : decode cL_law 618 = .ok (.iload 4, 2) := by decide +kernel
theorem dL_law_620 : decode cL_law 620 = .ok (.iconst 1, 1) := by decide +kernel
theorem dL_law_621 : decode cL_law 621 = .ok (.iadd, 1) := by decide +kernel
theorem dL_law_622 : decode cL_law 622 = .ok (.iaload, 1) := by decide +kernel
theorem dL_law_623 : decode cL_law 623 = .ok (.aload_n 0, 1) := by decide +kernel
theorem dL_law_624 : decode cL_law 624 = .ok (.iload 4, 2) := by decide +kernel
theorem dL_law_626 : decode cL_law 626 = .ok (.iconst 2, 1) := by decide +kernel
theorem dL_law_627 : decode cL_law 627 = .ok (.iadd, 1) := by decide +kernel
theorem dL_law_628 : decode cL_law 628 = .ok (.iaload, 1) := by decide +kernel
theorem dL_law_629 : decode cL_law 629 = .ok (.aload_n 3, 1) := by decide +kernel
theorem dL_law_630 : decode cL_law 630 = .ok (.invokestatic 105, 3) := by decide +kernel
theorem dL_law_633 : decode cL_law 633 = .ok (.istore 5, 2) := by decide +kernel
theorem dL_law_635 : decode cL_law 635 = .ok (.aload_n 2, 1) := by decide +kernel
theorem dL_law_636 : decode cL_law 636 = .ok (.aload_n 0, 1) := by decide +kernel
theorem dL_law_637 : decode cL_law 637 = .ok (.iload 4, 2) := by decide +kernel
theorem dL_law_639 : decode cL_law 639 = .ok (.iconst 1, 1) := by decide +kernel
theorem dL_law_640 : decode cL_law 640 = .ok (.iadd, 1) := by decide +kernel
theorem dL_law_641 : decode cL_law 641 = .ok (.iaload, 1) := by decide +kernel
theorem dL_law_642 : decode cL_law 642 = .ok (.aload_n 0, 1) := by decide +kernel
theorem dL_law_643 : decode cL_law 643 = .ok (.iload 4, 2) := by decide +kernel
theorem dL_law_645 : decode cL_law 645 = .ok (.iconst 2, 1) := by decide +kernel
theorem dL_law_646 : decode cL_law 646 = .ok (.iadd, 1) := by decide +kernel
theorem dL_law_647 : decode cL_law 647 = .ok (.iaload, 1) := by decide +kernel
theorem dL_law_648 : decode cL_law 648 = .ok (.invokevirtual 107, 3) := by decide +kernel
theorem dL_law_651 : decode cL_law 651 = .ok (.istore 6, 2) := by decide +kernel
theorem dL_law_653 : decode cL_law 653 = .ok (.aload_n 2, 1) := by decide +kernel
theorem dL_law_654 : decode cL_law 654 = .ok (.invokevirtual 84, 3) := by decide +kernel
theorem dL_law_657 : decode cL_law 657 = .ok (.iload 5, 2) := by decide +kernel
theorem dL_law_659 : decode cL_law 659 = .ok (.if_icmp .eq 5, 3) := by decide +kernel
theorem dL_law_662 : decode cL_law 662 = .ok (.iconst 0, 1) := by decide +kernel
theorem dL_law_663 : decode cL_law 663 = .ok (.ireturn, 1) := by decide +kernel
theorem dL_law_664 : decode cL_law 664 = .ok (.iload 5, 2) := by decide +kernel
theorem dL_law_666 : decode cL_law 666 = .ok (.ifCond .ne 15, 3) := by decide +kernel
theorem dL_law_669 : decode cL_law 669 = .ok (.aload_n 3, 1) := by decide +kernel
theorem dL_law_670 : decode cL_law 670 = .ok (.iconst 0, 1) := by decide +kernel
theorem dL_law_671 : decode cL_law 671 = .ok (.laload, 1) := by decide +kernel
theorem dL_law_672 : decode cL_law 672 = .ok (.iload 6, 2) := by decide +kernel
theorem dL_law_674 : decode cL_law 674 = .ok (.i2l, 1) := by decide +kernel
theorem dL_law_675 : decode cL_law 675 = .ok (.lcmp, 1) := by decide +kernel
theorem dL_law_676 : decode cL_law 676 = .ok (.ifCond .eq 5, 3) := by decide +kernel
theorem dL_law_679 : decode cL_law 679 = .ok (.iconst 0, 1) := by decide +kernel
theorem dL_law_680 : decode cL_law 680 = .ok (.ireturn, 1) := by decide +kernel
theorem dL_law_681 : decode cL_law 681 = .ok (.goto 778, 3) := by decide +kernel
theorem dL_law_684 : decode cL_law 684 = .ok (.aload_n 1, 1) := by decide +kernel
theorem dL_law_685 : decode cL_law 685 = .ok (.aload_n 0, 1) := by decide +kernel
theorem dL_law_686 : decode cL_law 686 = .ok (.iload 4, 2) := by decide +kernel
theorem dL_law_688 : decode cL_law 688 = .ok (.iconst 1, 1) := by decide +kernel
theorem dL_law_689 : decode cL_law 689 = .ok (.iadd, 1) := by decide +kernel
theorem dL_law_690 : decode cL_law 690 = .ok (.iaload, 1) := by decide +kernel
theorem dL_law_691 : decode cL_law 691 = .ok (.aload_n 0, 1) := by decide +kernel
theorem dL_law_692 : decode cL_law 692 = .ok (.iload 4, 2) := by decide +kernel
theorem dL_law_694 : decode cL_law 694 = .ok (.iconst 2, 1) := by decide +kernel
theorem dL_law_695 : decode cL_law 695 = .ok (.iadd, 1) := by decide +kernel
theorem dL_law_696 : decode cL_law 696 = .ok (.iaload, 1) := by decide +kernel
theorem dL_law_697 : decode cL_law 697 = .ok (.aload_n 0, 1) := by decide +kernel
theorem dL_law_698 : decode cL_law 698 = .ok (.iload 4, 2) := by decide +kernel
theorem dL_law_700 : decode cL_law 700 = .ok (.iconst 3, 1) := by decide +kernel
theorem dL_law_701 : decode cL_law 701 = .ok (.iadd, 1) := by decide +kernel
theorem dL_law_702 : decode cL_law 702 = .ok (.iaload, 1) := by decide +kernel
theorem dL_law_703 : decode cL_law 703 = .ok (.aload_n 3, 1) := by decide +kernel
theorem dL_law_704 : decode cL_law 704 = .ok (.invokestatic 108, 3) := by decide +kernel
theorem dL_law_707 : decode cL_law 707 = .ok (.istore 5, 2) := by decide +kernel
theorem dL_law_709 : decode cL_law 709 = .ok (.aload_n 2, 1) := by decide +kernel
theorem dL_law_710 : decode cL_law 710 = .ok (.aload_n 0, 1) := by decide +kernel
theorem dL_law_711 : decode cL_law 711 = .ok (.iload 4, 2) := by decide +kernel
theorem dL_law_713 : decode cL_law 713 = .ok (.iconst 1, 1) := by decide +kernel
theorem dL_law_714 : decode cL_law 714 = .ok (.iadd, 1) := by decide +kernel
theorem dL_law_715 : decode cL_law 715 = .ok (.iaload, 1) := by decide +kernel
theorem dL_law_716 : decode cL_law 716 = .ok (.aload_n 0, 1) := by decide +kernel
theorem dL_law_717 : decode cL_law 717 = .ok (.iload 4, 2) := by decide +kernel
theorem dL_law_719 : decode cL_law 719 = .ok (.iconst 2, 1) := by decide +kernel
theorem dL_law_720 : decode cL_law 720 = .ok (.iadd, 1) := by decide +kernel
theorem dL_law_721 : decode cL_law 721 = .ok (.iaload, 1) := by decide +kernel
theorem dL_law_722 : decode cL_law 722 = .ok (.aload_n 0, 1) := by decide +kernel
theorem dL_law_723 : decode cL_law 723 = .ok (.iload 4, 2) := by decide +kernel
theorem dL_law_725 : decode cL_law 725 = .ok (.iconst 3, 1) := by decide +kernel
theorem dL_law_726 : decode cL_law 726 = .ok (.iadd, 1) := by decide +kernel
theorem dL_law_727 : decode cL_law 727 = .ok (.iaload, 1) := by decide +kernel
theorem dL_law_728 : decode cL_law 728 = .ok (.invokevirtual 110, 3) := by decide +kernel
theorem dL_law_731 : decode cL_law 731 = .ok (.istore 6, 2) := by decide +kernel
theorem dL_law_733 : decode cL_law 733 = .ok (.aload_n 2, 1) := by decide +kernel
theorem dL_law_734 : decode cL_law 734 = .ok (.invokevirtual 84, 3) := by decide +kernel
theorem dL_law_737 : decode cL_law 737 = .ok (.iload 5, 2) := by decide +kernel
theorem dL_law_739 : decode cL_law 739 = .ok (.if_icmp .eq 5, 3) := by decide +kernel
theorem dL_law_742 : decode cL_law 742 = .ok (.iconst 0, 1) := by decide +kernel
theorem dL_law_743 : decode cL_law 743 = .ok (.ireturn, 1) := by decide +kernel
theorem dL_law_744 : decode cL_law 744 = .ok (.iload 5, 2) := by decide +kernel
theorem dL_law_746 : decode cL_law 746 = .ok (.ifCond .ne 15, 3) := by decide +kernel
theorem dL_law_749 : decode cL_law 749 = .ok (.aload_n 3, 1) := by decide +kernel
theorem dL_law_750 : decode cL_law 750 = .ok (.iconst 0, 1) := by decide +kernel
theorem dL_law_751 : decode cL_law 751 = .ok (.laload, 1) := by decide +kernel
theorem dL_law_752 : decode cL_law 752 = .ok (.iload 6, 2) := by decide +kernel
theorem dL_law_754 : decode cL_law 754 = .ok (.i2l, 1) := by decide +kernel
theorem dL_law_755 : decode cL_law 755 = .ok (.lcmp, 1) := by decide +kernel
theorem dL_law_756 : decode cL_law 756 = .ok (.ifCond .eq 5, 3) := by decide +kernel
theorem dL_law_759 : decode cL_law 759 = .ok (.iconst 0, 1) := by decide +kernel
theorem dL_law_760 : decode cL_law 760 = .ok (.ireturn, 1) := by decide +kernel
theorem dL_law_761 : decode cL_law 761 = .ok (.goto 698, 3) := by decide +kernel
theorem dL_law_764 : decode cL_law 764 = .ok (.aload_n 1, 1) := by decide +kernel
theorem dL_law_765 : decode cL_law 765 = .ok (.aload_n 0, 1) := by decide +kernel
theorem dL_law_766 : decode cL_law 766 = .ok (.iload 4, 2) := by decide +kernel
theorem dL_law_768 : decode cL_law 768 = .ok (.iconst 1, 1) := by decide +kernel
theorem dL_law_769 : decode cL_law 769 = .ok (.iadd, 1) := by decide +kernel
theorem dL_law_770 : decode cL_law 770 = .ok (.iaload, 1) := by decide +kernel
theorem dL_law_771 : decode cL_law 771 = .ok (.aload_n 0, 1) := by decide +kernel
theorem dL_law_772 : decode cL_law 772 = .ok (.iload 4, 2) := by decide +kernel
theorem dL_law_774 : decode cL_law 774 = .ok (.iconst 2, 1) := by decide +kernel
theorem dL_law_775 : decode cL_law 775 = .ok (.iadd, 1) := by decide +kernel
theorem dL_law_776 : decode cL_law 776 = .ok (.iaload, 1) := by decide +kernel
theorem dL_law_777 : decode cL_law 777 = .ok (.aload_n 3, 1) := by decide +kernel
theorem dL_law_778 : decode cL_law 778 = .ok (.invokestatic 111, 3) := by decide +kernel
theorem dL_law_781 : decode cL_law 781 = .ok (.istore 5, 2) := by decide +kernel
theorem dL_law_783 : decode cL_law 783 = .ok (.aload_n 2, 1) := by decide +kernel
theorem dL_law_784 : decode cL_law 784 = .ok (.aload_n 0, 1) := by decide +kernel
theorem dL_law_785 : decode cL_law 785 = .ok (.iload 4, 2) := by decide +kernel
theorem dL_law_787 : decode cL_law 787 = .ok (.iconst 1, 1) := by decide +kernel
theorem dL_law_788 : decode cL_law 788 = .ok (.iadd, 1) := by decide +kernel
theorem dL_law_789 : decode cL_law 789 = .ok (.iaload, 1) := by decide +kernel
theorem dL_law_790 : decode cL_law 790 = .ok (.aload_n 0, 1) := by decide +kernel
theorem dL_law_791 : decode cL_law 791 = .ok (.iload 4, 2) := by decide +kernel
theorem dL_law_793 : decode cL_law 793 = .ok (.iconst 2, 1) := by decide +kernel
theorem dL_law_794 : decode cL_law 794 = .ok (.iadd, 1) := by decide +kernel
theorem dL_law_795 : decode cL_law 795 = .ok (.iaload, 1) := by decide +kernel
theorem dL_law_796 : decode cL_law 796 = .ok (.invokevirtual 113, 3) := by decide +kernel
theorem dL_law_799 : decode cL_law 799 = .ok (.istore 6, 2) := by decide +kernel
theorem dL_law_801 : decode cL_law 801 = .ok (.aload_n 2, 1) := by decide +kernel
theorem dL_law_802 : decode cL_law 802 = .ok (.invokevirtual 84, 3) := by decide +kernel
theorem dL_law_805 : decode cL_law 805 = .ok (.iload 5, 2) := by decide +kernel
theorem dL_law_807 : decode cL_law 807 = .ok (.if_icmp .eq 5, 3) := by decide +kernel
theorem dL_law_810 : decode cL_law 810 = .ok (.iconst 0, 1) := by decide +kernel
theorem dL_law_811 : decode cL_law 811 = .ok (.ireturn, 1) := by decide +kernel
theorem dL_law_812 : decode cL_law 812 = .ok (.iload 5, 2) := by decide +kernel
theorem dL_law_814 : decode cL_law 814 = .ok (.ifCond .ne 15, 3) := by decide +kernel
theorem dL_law_817 : decode cL_law 817 = .ok (.aload_n 3, 1) := by decide +kernel
theorem dL_law_818 : decode cL_law 818 = .ok (.iconst 0, 1) := by decide +kernel
theorem dL_law_819 : decode cL_law 819 = .ok (.laload, 1) := by decide +kernel
theorem dL_law_820 : decode cL_law 820 = .ok (.iload 6, 2) := by decide +kernel
theorem dL_law_822 : decode cL_law 822 = .ok (.i2l, 1) := by decide +kernel
theorem dL_law_823 : decode cL_law 823 = .ok (.lcmp, 1) := by decide +kernel
theorem dL_law_824 : decode cL_law 824 = .ok (.ifCond .eq 5, 3) := by decide +kernel
theorem dL_law_827 : decode cL_law 827 = .ok (.iconst 0, 1) := by decide +kernel
theorem dL_law_828 : decode cL_law 828 = .ok (.ireturn, 1) := by decide +kernel
theorem dL_law_829 : decode cL_law 829 = .ok (.goto 630, 3) := by decide +kernel
theorem dL_law_832 : decode cL_law 832 = .ok (.aload_n 1, 1) := by decide +kernel
theorem dL_law_833 : decode cL_law 833 = .ok (.aload_n 0, 1) := by decide +kernel
theorem dL_law_834 : decode cL_law 834 = .ok (.iload 4, 2) := by decide +kernel
theorem dL_law_836 : decode cL_law 836 = .ok (.iconst 1, 1) := by decide +kernel
theorem dL_law_837 : decode cL_law 837 = .ok (.iadd, 1) := by decide +kernel
theorem dL_law_838 : decode cL_law 838 = .ok (.iaload, 1) := by decide +kernel
theorem dL_law_839 : decode cL_law 839 = .ok (.aload_n 0, 1) := by decide +kernel
theorem dL_law_840 : decode cL_law 840 = .ok (.iload 4, 2) := by decide +kernel
theorem dL_law_842 : decode cL_law 842 = .ok (.iconst 2, 1) := by decide +kernel
theorem dL_law_843 : decode cL_law 843 = .ok (.iadd, 1) := by decide +kernel
theorem dL_law_844 : decode cL_law 844 = .ok (.iaload, 1) := by decide +kernel
theorem dL_law_845 : decode cL_law 845 = .ok (.aload_n 3, 1) := by decide +kernel
theorem dL_law_846 : decode cL_law 846 = .ok (.invokestatic 114, 3) := by decide +kernel
theorem dL_law_849 : decode cL_law 849 = .ok (.istore 5, 2) := by decide +kernel
theorem dL_law_851 : decode cL_law 851 = .ok (.aload_n 2, 1) := by decide +kernel
theorem dL_law_852 : decode cL_law 852 = .ok (.aload_n 0, 1) := by decide +kernel
theorem dL_law_853 : decode cL_law 853 = .ok (.iload 4, 2) := by decide +kernel
theorem dL_law_855 : decode cL_law 855 = .ok (.iconst 1, 1) := by decide +kernel
theorem dL_law_856 : decode cL_law 856 = .ok (.iadd, 1) := by decide +kernel
theorem dL_law_857 : decode cL_law 857 = .ok (.iaload, 1) := by decide +kernel
theorem dL_law_858 : decode cL_law 858 = .ok (.aload_n 0, 1) := by decide +kernel
theorem dL_law_859 : decode cL_law 859 = .ok (.iload 4, 2) := by decide +kernel
theorem dL_law_861 : decode cL_law 861 = .ok (.iconst 2, 1) := by decide +kernel
theorem dL_law_862 : decode cL_law 862 = .ok (.iadd, 1) := by decide +kernel
theorem dL_law_863 : decode cL_law 863 = .ok (.iaload, 1) := by decide +kernel
theorem dL_law_864 : decode cL_law 864 = .ok (.invokevirtual 116, 3) := by decide +kernel
theorem dL_law_867 : decode cL_law 867 = .ok (.istore 6, 2) := by decide +kernel
theorem dL_law_869 : decode cL_law 869 = .ok (.aload_n 2, 1) := by decide +kernel
theorem dL_law_870 : decode cL_law 870 = .ok (.invokevirtual 84, 3) := by decide +kernel
theorem dL_law_873 : decode cL_law 873 = .ok (.iload 5, 2) := by decide +kernel
theorem dL_law_875 : decode cL_law 875 = .ok (.if_icmp .eq 5, 3) := by decide +kernel
theorem dL_law_878 : decode cL_law 878 = .ok (.iconst 0, 1) := by decide +kernel
theorem dL_law_879 : decode cL_law 879 = .ok (.ireturn, 1) := by decide +kernel
theorem dL_law_880 : decode cL_law 880 = .ok (.iload 5, 2) := by decide +kernel
theorem dL_law_882 : decode cL_law 882 = .ok (.ifCond .ne 15, 3) := by decide +kernel
theorem dL_law_885 : decode cL_law 885 = .ok (.aload_n 3, 1) := by decide +kernel
theorem dL_law_886 : decode cL_law 886 = .ok (.iconst 0, 1) := by decide +kernel
theorem dL_law_887 : decode cL_law 887 = .ok (.laload, 1) := by decide +kernel
theorem dL_law_888 : decode cL_law 888 = .ok (.iload 6, 2) := by decide +kernel
theorem dL_law_890 : decode cL_law 890 = .ok (.i2l, 1) := by decide +kernel
theorem dL_law_891 : decode cL_law 891 = .ok (.lcmp, 1) := by decide +kernel
theorem dL_law_892 : decode cL_law 892 = .ok (.ifCond .eq 5, 3) := by decide +kernel
theorem dL_law_895 : decode cL_law 895 = .ok (.iconst 0, 1) := by decide +kernel
theorem dL_law_896 : decode cL_law 896 = .ok (.ireturn, 1) := by decide +kernel
theorem dL_law_897 : decode cL_law 897 = .ok (.goto 562, 3) := by decide +kernel
theorem dL_law_900 : decode cL_law 900 = .ok (.aload_n 1, 1) := by decide +kernel
theorem dL_law_901 : decode cL_law 901 = .ok (.aload_n 0, 1) := by decide +kernel
theorem dL_law_902 : decode cL_law 902 = .ok (.iload 4, 2) := by decide +kernel
theorem dL_law_904 : decode cL_law 904 = .ok (.iconst 1, 1) := by decide +kernel
theorem dL_law_905 : decode cL_law 905 = .ok (.iadd, 1) := by decide +kernel
theorem dL_law_906 : decode cL_law 906 = .ok (.iaload, 1) := by decide +kernel
theorem dL_law_907 : decode cL_law 907 = .ok (.aload_n 3, 1) := by decide +kernel
theorem dL_law_908 : decode cL_law 908 = .ok (.invokestatic 117, 3) := by decide +kernel
theorem dL_law_911 : decode cL_law 911 = .ok (.istore 5, 2) := by decide +kernel
theorem dL_law_913 : decode cL_law 913 = .ok (.aload_n 2, 1) := by decide +kernel
theorem dL_law_914 : decode cL_law 914 = .ok (.aload_n 0, 1) := by decide +kernel
theorem dL_law_915 : decode cL_law 915 = .ok (.iload 4, 2) := by decide +kernel
theorem dL_law_917 : decode cL_law 917 = .ok (.iconst 1, 1) := by decide +kernel
theorem dL_law_918 : decode cL_law 918 = .ok (.iadd, 1) := by decide +kernel
theorem dL_law_919 : decode cL_law 919 = .ok (.iaload, 1) := by decide +kernel
theorem dL_law_920 : decode cL_law 920 = .ok (.invokevirtual 120, 3) := by decide +kernel
theorem dL_law_923 : decode cL_law 923 = .ok (.istore 6, 2) := by decide +kernel
theorem dL_law_925 : decode cL_law 925 = .ok (.aload_n 2, 1) := by decide +kernel
theorem dL_law_926 : decode cL_law 926 = .ok (.invokevirtual 84, 3) := by decide +kernel
theorem dL_law_929 : decode cL_law 929 = .ok (.iload 5, 2) := by decide +kernel
theorem dL_law_931 : decode cL_law 931 = .ok (.if_icmp .eq 5, 3) := by decide +kernel
theorem dL_law_934 : decode cL_law 934 = .ok (.iconst 0, 1) := by decide +kernel
theorem dL_law_935 : decode cL_law 935 = .ok (.ireturn, 1) := by decide +kernel
theorem dL_law_936 : decode cL_law 936 = .ok (.iload 5, 2) := by decide +kernel
theorem dL_law_938 : decode cL_law 938 = .ok (.ifCond .ne 22, 3) := by decide +kernel
theorem dL_law_941 : decode cL_law 941 = .ok (.aload_n 3, 1) := by decide +kernel
theorem dL_law_942 : decode cL_law 942 = .ok (.iconst 0, 1) := by decide +kernel
theorem dL_law_943 : decode cL_law 943 = .ok (.laload, 1) := by decide +kernel
theorem dL_law_944 : decode cL_law 944 = .ok (.iload 6, 2) := by decide +kernel
theorem dL_law_946 : decode cL_law 946 = .ok (.ifCond .eq 7, 3) := by decide +kernel
theorem dL_law_949 : decode cL_law 949 = .ok (.lconst 1, 1) := by decide +kernel
theorem dL_law_950 : decode cL_law 950 = .ok (.goto 4, 3) := by decide +kernel
theorem dL_law_953 : decode cL_law 953 = .ok (.lconst 0, 1) := by decide +kernel
theorem dL_law_954 : decode cL_law 954 = .ok (.lcmp, 1) := by decide +kernel
theorem dL_law_955 : decode cL_law 955 = .ok (.ifCond .eq 5, 3) := by decide +kernel
theorem dL_law_958 : decode cL_law 958 = .ok (.iconst 0, 1) := by decide +kernel
theorem dL_law_959 : decode cL_law 959 = .ok (.ireturn, 1) := by decide +kernel
theorem dL_law_960 : decode cL_law 960 = .ok (.goto 499, 3) := by decide +kernel
theorem dL_law_963 : decode cL_law 963 = .ok (.aload_n 1, 1) := by decide +kernel
theorem dL_law_964 : decode cL_law 964 = .ok (.aload_n 0, 1) := by decide +kernel
theorem dL_law_965 : decode cL_law 965 = .ok (.iload 4, 2) := by decide +kernel
theorem dL_law_967 : decode cL_law 967 = .ok (.iconst 1, 1) := by decide +kernel
theorem dL_law_968 : decode cL_law 968 = .ok (.iadd, 1) := by decide +kernel
theorem dL_law_969 : decode cL_law 969 = .ok (.iaload, 1) := by decide +kernel
theorem dL_law_970 : decode cL_law 970 = .ok (.aload_n 0, 1) := by decide +kernel
theorem dL_law_971 : decode cL_law 971 = .ok (.iload 4, 2) := by decide +kernel
theorem dL_law_973 : decode cL_law 973 = .ok (.iconst 2, 1) := by decide +kernel
theorem dL_law_974 : decode cL_law 974 = .ok (.iadd, 1) := by decide +kernel
theorem dL_law_975 : decode cL_law 975 = .ok (.iaload, 1) := by decide +kernel
theorem dL_law_976 : decode cL_law 976 = .ok (.aload_n 3, 1) := by decide +kernel
theorem dL_law_977 : decode cL_law 977 = .ok (.invokestatic 121, 3) := by decide +kernel
theorem dL_law_980 : decode cL_law 980 = .ok (.istore 5, 2) := by decide +kernel
theorem dL_law_982 : decode cL_law 982 = .ok (.aload_n 2, 1) := by decide +kernel
theorem dL_law_983 : decode cL_law 983 = .ok (.aload_n 0, 1) := by decide +kernel
theorem dL_law_984 : decode cL_law 984 = .ok (.iload 4, 2) := by decide +kernel
theorem dL_law_986 : decode cL_law 986 = .ok (.iconst 1, 1) := by decide +kernel
theorem dL_law_987 : decode cL_law 987 = .ok (.iadd, 1) := by decide +kernel
theorem dL_law_988 : decode cL_law 988 = .ok (.iaload, 1) := by decide +kernel
theorem dL_law_989 : decode cL_law 989 = .ok (.aload_n 0, 1) := by decide +kernel
theorem dL_law_990 : decode cL_law 990 = .ok (.iload 4, 2) := by decide +kernel
theorem dL_law_992 : decode cL_law 992 = .ok (.iconst 2, 1) := by decide +kernel
theorem dL_law_993 : decode cL_law 993 = .ok (.iadd, 1) := by decide +kernel
theorem dL_law_994 : decode cL_law 994 = .ok (.iaload, 1) := by decide +kernel
theorem dL_law_995 : decode cL_law 995 = .ok (.invokevirtual 123, 3) := by decide +kernel
theorem dL_law_998 : decode cL_law 998 = .ok (.istore 6, 2) := by decide +kernel
theorem dL_law_1000 : decode cL_law 1000 = .ok (.aload_n 2, 1) := by decide +kernel
theorem dL_law_1001 : decode cL_law 1001 = .ok (.invokevirtual 84, 3) := by decide +kernel
theorem dL_law_1004 : decode cL_law 1004 = .ok (.iload 5, 2) := by decide +kernel
theorem dL_law_1006 : decode cL_law 1006 = .ok (.if_icmp .eq 5, 3) := by decide +kernel
theorem dL_law_1009 : decode cL_law 1009 = .ok (.iconst 0, 1) := by decide +kernel
theorem dL_law_1010 : decode cL_law 1010 = .ok (.ireturn, 1) := by decide +kernel
theorem dL_law_1011 : decode cL_law 1011 = .ok (.iload 5, 2) := by decide +kernel
theorem dL_law_1013 : decode cL_law 1013 = .ok (.ifCond .ne 15, 3) := by decide +kernel
theorem dL_law_1016 : decode cL_law 1016 = .ok (.aload_n 3, 1) := by decide +kernel
theorem dL_law_1017 : decode cL_law 1017 = .ok (.iconst 0, 1) := by decide +kernel
theorem dL_law_1018 : decode cL_law 1018 = .ok (.laload, 1) := by decide +kernel
theorem dL_law_1019 : decode cL_law 1019 = .ok (.iload 6, 2) := by decide +kernel
theorem dL_law_1021 : decode cL_law 1021 = .ok (.i2l, 1) := by decide +kernel
theorem dL_law_1022 : decode cL_law 1022 = .ok (.lcmp, 1) := by decide +kernel
theorem dL_law_1023 : decode cL_law 1023 = .ok (.ifCond .eq 5, 3) := by decide +kernel
theorem dL_law_1026 : decode cL_law 1026 = .ok (.iconst 0, 1) := by decide +kernel
theorem dL_law_1027 : decode cL_law 1027 = .ok (.ireturn, 1) := by decide +kernel
theorem dL_law_1028 : decode cL_law 1028 = .ok (.goto 431, 3) := by decide +kernel
theorem dL_law_1031 : decode cL_law 1031 = .ok (.aload_n 1, 1) := by decide +kernel
theorem dL_law_1032 : decode cL_law 1032 = .ok (.aload_n 0, 1) := by decide +kernel
theorem dL_law_1033 : decode cL_law 1033 = .ok (.iload 4, 2) := by decide +kernel
theorem dL_law_1035 : decode cL_law 1035 = .ok (.iconst 1, 1) := by decide +kernel
theorem dL_law_1036 : decode cL_law 1036 = .ok (.iadd, 1) := by decide +kernel
theorem dL_law_1037 : decode cL_law 1037 = .ok (.iaload, 1) := by decide +kernel
theorem dL_law_1038 : decode cL_law 1038 = .ok (.aload_n 3, 1) := by decide +kernel
theorem dL_law_1039 : decode cL_law 1039 = .ok (.invokestatic 124, 3) := by decide +kernel
theorem dL_law_1042 : decode cL_law 1042 = .ok (.istore 5, 2) := by decide +kernel
theorem dL_law_1044 : decode cL_law 1044 = .ok (.aload_n 2, 1) := by decide +kernel
theorem dL_law_1045 : decode cL_law 1045 = .ok (.aload_n 0, 1) := by decide +kernel
theorem dL_law_1046 : decode cL_law 1046 = .ok (.iload 4, 2) := by decide +kernel
theorem dL_law_1048 : decode cL_law 1048 = .ok (.iconst 1, 1) := by decide +kernel
theorem dL_law_1049 : decode cL_law 1049 = .ok (.iadd, 1) := by decide +kernel
theorem dL_law_1050 : decode cL_law 1050 = .ok (.iaload, 1) := by decide +kernel
theorem dL_law_1051 : decode cL_law 1051 = .ok (.invokevirtual 126, 3) := by decide +kernel
theorem dL_law_1054 : decode cL_law 1054 = .ok (.istore 6, 2) := by decide +kernel
theorem dL_law_1056 : decode cL_law 1056 = .ok (.aload_n 2, 1) := by decide +kernel
theorem dL_law_1057 : decode cL_law 1057 = .ok (.invokevirtual 84, 3) := by decide +kernel
theorem dL_law_1060 : decode cL_law 1060 = .ok (.iload 5, 2) := by decide +kernel
theorem dL_law_1062 : decode cL_law 1062 = .ok (.if_icmp .eq 5, 3) := by decide +kernel
theorem dL_law_1065 : decode cL_law 1065 = .ok (.iconst 0, 1) := by decide +kernel
theorem dL_law_1066 : decode cL_law 1066 = .ok (.ireturn, 1) := by decide +kernel
theorem dL_law_1067 : decode cL_law 1067 = .ok (.iload 5, 2) := by decide +kernel
theorem dL_law_1069 : decode cL_law 1069 = .ok (.ifCond .ne 15, 3) := by decide +kernel
theorem dL_law_1072 : decode cL_law 1072 = .ok (.aload_n 3, 1) := by decide +kernel
theorem dL_law_1073 : decode cL_law 1073 = .ok (.iconst 0, 1) := by decide +kernel
theorem dL_law_1074 : decode cL_law 1074 = .ok (.laload, 1) := by decide +kernel
theorem dL_law_1075 : decode cL_law 1075 = .ok (.iload 6, 2) := by decide +kernel
theorem dL_law_1077 : decode cL_law 1077 = .ok (.i2l, 1) := by decide +kernel
theorem dL_law_1078 : decode cL_law 1078 = .ok (.lcmp, 1) := by decide +kernel
theorem dL_law_1079 : decode cL_law 1079 = .ok (.ifCond .eq 5, 3) := by decide +kernel
theorem dL_law_1082 : decode cL_law 1082 = .ok (.iconst 0, 1) := by decide +kernel
theorem dL_law_1083 : decode cL_law 1083 = .ok (.ireturn, 1) := by decide +kernel
theorem dL_law_1084 : decode cL_law 1084 = .ok (.goto 375, 3) := by decide +kernel
theorem dL_law_1087 : decode cL_law 1087 = .ok (.aload_n 1, 1) := by decide +kernel
theorem dL_law_1088 : decode cL_law 1088 = .ok (.aload_n 0, 1) := by decide +kernel
theorem dL_law_1089 : decode cL_law 1089 = .ok (.iload 4, 2) := by decide +kernel
theorem dL_law_1091 : decode cL_law 1091 = .ok (.iconst 1, 1) := by decide +kernel
theorem dL_law_1092 : decode cL_law 1092 = .ok (.iadd, 1) := by decide +kernel
theorem dL_law_1093 : decode cL_law 1093 = .ok (.iaload, 1) := by decide +kernel
theorem dL_law_1094 : decode cL_law 1094 = .ok (.aload_n 3, 1) := by decide +kernel
theorem dL_law_1095 : decode cL_law 1095 = .ok (.invokestatic 127, 3) := by decide +kernel
theorem dL_law_1098 : decode cL_law 1098 = .ok (.istore 5, 2) := by decide +kernel
theorem dL_law_1100 : decode cL_law 1100 = .ok (.aload_n 2, 1) := by decide +kernel
theorem dL_law_1101 : decode cL_law 1101 = .ok (.aload_n 0, 1) := by decide +kernel
theorem dL_law_1102 : decode cL_law 1102 = .ok (.iload 4, 2) := by decide +kernel
theorem dL_law_1104 : decode cL_law 1104 = .ok (.iconst 1, 1) := by decide +kernel
theorem dL_law_1105 : decode cL_law 1105 = .ok (.iadd, 1) := by decide +kernel
theorem dL_law_1106 : decode cL_law 1106 = .ok (.iaload, 1) := by decide +kernel
theorem dL_law_1107 : decode cL_law 1107 = .ok (.invokevirtual 129, 3) := by decide +kernel
theorem dL_law_1110 : decode cL_law 1110 = .ok (.istore 6, 2) := by decide +kernel
theorem dL_law_1112 : decode cL_law 1112 = .ok (.aload_n 2, 1) := by decide +kernel
theorem dL_law_1113 : decode cL_law 1113 = .ok (.invokevirtual 84, 3) := by decide +kernel
theorem dL_law_1116 : decode cL_law 1116 = .ok (.iload 5, 2) := by decide +kernel
theorem dL_law_1118 : decode cL_law 1118 = .ok (.if_icmp .eq 5, 3) := by decide +kernel
theorem dL_law_1121 : decode cL_law 1121 = .ok (.iconst 0, 1) := by decide +kernel
theorem dL_law_1122 : decode cL_law 1122 = .ok (.ireturn, 1) := by decide +kernel
theorem dL_law_1123 : decode cL_law 1123 = .ok (.iload 5, 2) := by decide +kernel
theorem dL_law_1125 : decode cL_law 1125 = .ok (.ifCond .ne 15, 3) := by decide +kernel
theorem dL_law_1128 : decode cL_law 1128 = .ok (.aload_n 3, 1) := by decide +kernel
theorem dL_law_1129 : decode cL_law 1129 = .ok (.iconst 0, 1) := by decide +kernel
theorem dL_law_1130 : decode cL_law 1130 = .ok (.laload, 1) := by decide +kernel
theorem dL_law_1131 : decode cL_law 1131 = .ok (.iload 6, 2) := by decide +kernel
theorem dL_law_1133 : decode cL_law 1133 = .ok (.i2l, 1) := by decide +kernel
theorem dL_law_1134 : decode cL_law 1134 = .ok (.lcmp, 1) := by decide +kernel
theorem dL_law_1135 : decode cL_law 1135 = .ok (.ifCond .eq 5, 3) := by decide +kernel
theorem dL_law_1138 : decode cL_law 1138 = .ok (.iconst 0, 1) := by decide +kernel
theorem dL_law_1139 : decode cL_law 1139 = .ok (.ireturn, 1) := by decide +kernel
theorem dL_law_1140 : decode cL_law 1140 = .ok (.goto 319, 3) := by decide +kernel
theorem dL_law_1143 : decode cL_law 1143 = .ok (.aload_n 1, 1) := by decide +kernel
theorem dL_law_1144 : decode cL_law 1144 = .ok (.aload_n 0, 1) := by decide +kernel
theorem dL_law_1145 : decode cL_law 1145 = .ok (.iload 4, 2) := by decide +kernel
theorem dL_law_1147 : decode cL_law 1147 = .ok (.iconst 1, 1) := by decide +kernel
theorem dL_law_1148 : decode cL_law 1148 = .ok (.iadd, 1) := by decide +kernel
theorem dL_law_1149 : decode cL_law 1149 = .ok (.iaload, 1) := by decide +kernel
theorem dL_law_1150 : decode cL_law 1150 = .ok (.aload_n 3, 1) := by decide +kernel
theorem dL_law_1151 : decode cL_law 1151 = .ok (.invokestatic 130, 3) := by decide +kernel
theorem dL_law_1154 : decode cL_law 1154 = .ok (.istore 5, 2) := by decide +kernel
theorem dL_law_1156 : decode cL_law 1156 = .ok (.aload_n 2, 1) := by decide +kernel
theorem dL_law_1157 : decode cL_law 1157 = .ok (.aload_n 0, 1) := by decide +kernel
theorem dL_law_1158 : decode cL_law 1158 = .ok (.iload 4, 2) := by decide +kernel
theorem dL_law_1160 : decode cL_law 1160 = .ok (.iconst 1, 1) := by decide +kernel
theorem dL_law_1161 : decode cL_law 1161 = .ok (.iadd, 1) := by decide +kernel
theorem dL_law_1162 : decode cL_law 1162 = .ok (.iaload, 1) := by decide +kernel
theorem dL_law_1163 : decode cL_law 1163 = .ok (.invokevirtual 132, 3) := by decide +kernel
theorem dL_law_1166 : decode cL_law 1166 = .ok (.istore 6, 2) := by decide +kernel
theorem dL_law_1168 : decode cL_law 1168 = .ok (.aload_n 2, 1) := by decide +kernel
theorem dL_law_1169 : decode cL_law 1169 = .ok (.invokevirtual 84, 3) := by decide +kernel
theorem dL_law_1172 : decode cL_law 1172 = .ok (.iload 5, 2) := by decide +kernel
theorem dL_law_1174 : decode cL_law 1174 = .ok (.if_icmp .eq 5, 3) := by decide +kernel
theorem dL_law_1177 : decode cL_law 1177 = .ok (.iconst 0, 1) := by decide +kernel
theorem dL_law_1178 : decode cL_law 1178 = .ok (.ireturn, 1) := by decide +kernel
theorem dL_law_1179 : decode cL_law 1179 = .ok (.iload 5, 2) := by decide +kernel
theorem dL_law_1181 : decode cL_law 1181 = .ok (.ifCond .ne 15, 3) := by decide +kernel
theorem dL_law_1184 : decode cL_law 1184 = .ok (.aload_n 3, 1) := by decide +kernel
theorem dL_law_1185 : decode cL_law 1185 = .ok (.iconst 0, 1) := by decide +kernel
theorem dL_law_1186 : decode cL_law 1186 = .ok (.laload, 1) := by decide +kernel
theorem dL_law_1187 : decode cL_law 1187 = .ok (.iload 6, 2) := by decide +kernel
theorem dL_law_1189 : decode cL_law 1189 = .ok (.i2l, 1) := by decide +kernel
theorem dL_law_1190 : decode cL_law 1190 = .ok (.lcmp, 1) := by decide +kernel
theorem dL_law_1191 : decode cL_law 1191 = .ok (.ifCond .eq 5, 3) := by decide +kernel
theorem dL_law_1194 : decode cL_law 1194 = .ok (.iconst 0, 1) := by decide +kernel
theorem dL_law_1195 : decode cL_law 1195 = .ok (.ireturn, 1) := by decide +kernel
theorem dL_law_1196 : decode cL_law 1196 = .ok (.goto 263, 3) := by decide +kernel
theorem dL_law_1199 : decode cL_law 1199 = .ok (.aload_n 1, 1) := by decide +kernel
theorem dL_law_1200 : decode cL_law 1200 = .ok (.aload_n 0, 1) := by decide +kernel
theorem dL_law_1201 : decode cL_law 1201 = .ok (.iload 4, 2) := by decide +kernel
theorem dL_law_1203 : decode cL_law 1203 = .ok (.iconst 1, 1) := by decide +kernel
theorem dL_law_1204 : decode cL_law 1204 = .ok (.iadd, 1) := by decide +kernel
theorem dL_law_1205 : decode cL_law 1205 = .ok (.iaload, 1) := by decide +kernel
theorem dL_law_1206 : decode cL_law 1206 = .ok (.aload_n 0, 1) := by decide +kernel
theorem dL_law_1207 : decode cL_law 1207 = .ok (.iload 4, 2) := by decide +kernel
theorem dL_law_1209 : decode cL_law 1209 = .ok (.iconst 2, 1) := by decide +kernel
theorem dL_law_1210 : decode cL_law 1210 = .ok (.iadd, 1) := by decide +kernel
theorem dL_law_1211 : decode cL_law 1211 = .ok (.iaload, 1) := by decide +kernel
theorem dL_law_1212 : decode cL_law 1212 = .ok (.aload_n 3, 1) := by decide +kernel
theorem dL_law_1213 : decode cL_law 1213 = .ok (.invokestatic 133, 3) := by decide +kernel
theorem dL_law_1216 : decode cL_law 1216 = .ok (.istore 5, 2) := by decide +kernel
theorem dL_law_1218 : decode cL_law 1218 = .ok (.aload_n 2, 1) := by decide +kernel
theorem dL_law_1219 : decode cL_law 1219 = .ok (.aload_n 0, 1) := by decide +kernel
theorem dL_law_1220 : decode cL_law 1220 = .ok (.iload 4, 2) := by decide +kernel
theorem dL_law_1222 : decode cL_law 1222 = .ok (.iconst 1, 1) := by decide +kernel
theorem dL_law_1223 : decode cL_law 1223 = .ok (.iadd, 1) := by decide +kernel
theorem dL_law_1224 : decode cL_law 1224 = .ok (.iaload, 1) := by decide +kernel
theorem dL_law_1225 : decode cL_law 1225 = .ok (.aload_n 0, 1) := by decide +kernel
theorem dL_law_1226 : decode cL_law 1226 = .ok (.iload 4, 2) := by decide +kernel
theorem dL_law_1228 : decode cL_law 1228 = .ok (.iconst 2, 1) := by decide +kernel
theorem dL_law_1229 : decode cL_law 1229 = .ok (.iadd, 1) := by decide +kernel
theorem dL_law_1230 : decode cL_law 1230 = .ok (.iaload, 1) := by decide +kernel
theorem dL_law_1231 : decode cL_law 1231 = .ok (.invokevirtual 135, 3) := by decide +kernel
theorem dL_law_1234 : decode cL_law 1234 = .ok (.istore 6, 2) := by decide +kernel
theorem dL_law_1236 : decode cL_law 1236 = .ok (.aload_n 2, 1) := by decide +kernel
theorem dL_law_1237 : decode cL_law 1237 = .ok (.invokevirtual 84, 3) := by decide +kernel
theorem dL_law_1240 : decode cL_law 1240 = .ok (.iload 5, 2) := by decide +kernel
theorem dL_law_1242 : decode cL_law 1242 = .ok (.if_icmp .eq 5, 3) := by decide +kernel
theorem dL_law_1245 : decode cL_law 1245 = .ok (.iconst 0, 1) := by decide +kernel
theorem dL_law_1246 : decode cL_law 1246 = .ok (.ireturn, 1) := by decide +kernel
theorem dL_law_1247 : decode cL_law 1247 = .ok (.iload 5, 2) := by decide +kernel
theorem dL_law_1249 : decode cL_law 1249 = .ok (.ifCond .ne 15, 3) := by decide +kernel
theorem dL_law_1252 : decode cL_law 1252 = .ok (.aload_n 3, 1) := by decide +kernel
theorem dL_law_1253 : decode cL_law 1253 = .ok (.iconst 0, 1) := by decide +kernel
theorem dL_law_1254 : decode cL_law 1254 = .ok (.laload, 1) := by decide +kernel
theorem dL_law_1255 : decode cL_law 1255 = .ok (.iload 6, 2) := by decide +kernel
theorem dL_law_1257 : decode cL_law 1257 = .ok (.i2l, 1) := by decide +kernel
theorem dL_law_1258 : decode cL_law 1258 = .ok (.lcmp, 1) := by decide +kernel
theorem dL_law_1259 : decode cL_law 1259 = .ok (.ifCond .eq 5, 3) := by decide +kernel
theorem dL_law_1262 : decode cL_law 1262 = .ok (.iconst 0, 1) := by decide +kernel
theorem dL_law_1263 : decode cL_law 1263 = .ok (.ireturn, 1) := by decide +kernel
theorem dL_law_1264 : decode cL_law 1264 = .ok (.goto 195, 3) := by decide +kernel
theorem dL_law_1267 : decode cL_law 1267 = .ok (.aload_n 1, 1) := by decide +kernel
theorem dL_law_1268 : decode cL_law 1268 = .ok (.invokevirtual 136, 3) := by decide +kernel
theorem dL_law_1271 : decode cL_law 1271 = .ok (.aload_n 2, 1) := by decide +kernel
theorem dL_law_1272 : decode cL_law 1272 = .ok (.invokevirtual 139, 3) := by decide +kernel
theorem dL_law_1275 : decode cL_law 1275 = .ok (.if_icmp .eq 184, 3) := by decide +kernel
theorem dL_law_1278 : decode cL_law 1278 = .ok (.iconst 0, 1) := by decide +kernel
theorem dL_law_1279 : decode cL_law 1279 = .ok (.ireturn, 1) := by decide +kernel
theorem dL_law_1280 : decode cL_law 1280 = .ok (.aload_n 1, 1) := by decide +kernel
theorem dL_law_1281 : decode cL_law 1281 = .ok (.aload_n 0, 1) := by decide +kernel
theorem dL_law_1282 : decode cL_law 1282 = .ok (.iload 4, 2) := by decide +kernel
theorem dL_law_1284 : decode cL_law 1284 = .ok (.iconst 1, 1) := by decide +kernel
theorem dL_law_1285 : decode cL_law 1285 = .ok (.iadd, 1) := by decide +kernel
theorem dL_law_1286 : decode cL_law 1286 = .ok (.iaload, 1) := by decide +kernel
theorem dL_law_1287 : decode cL_law 1287 = .ok (.aload_n 3, 1) := by decide +kernel
theorem dL_law_1288 : decode cL_law 1288 = .ok (.invokestatic 140, 3) := by decide +kernel
theorem dL_law_1291 : decode cL_law 1291 = .ok (.istore 5, 2) := by decide +kernel
theorem dL_law_1293 : decode cL_law 1293 = .ok (.aload_n 2, 1) := by decide +kernel
theorem dL_law_1294 : decode cL_law 1294 = .ok (.aload_n 0, 1) := by decide +kernel
theorem dL_law_1295 : decode cL_law 1295 = .ok (.iload 4, 2) := by decide +kernel
theorem dL_law_1297 : decode cL_law 1297 = .ok (.iconst 1, 1) := by decide +kernel
theorem dL_law_1298 : decode cL_law 1298 = .ok (.iadd, 1) := by decide +kernel
theorem dL_law_1299 : decode cL_law 1299 = .ok (.iaload, 1) := by decide +kernel
theorem dL_law_1300 : decode cL_law 1300 = .ok (.invokevirtual 142, 3) := by decide +kernel
theorem dL_law_1303 : decode cL_law 1303 = .ok (.istore 6, 2) := by decide +kernel
theorem dL_law_1305 : decode cL_law 1305 = .ok (.aload_n 2, 1) := by decide +kernel
theorem dL_law_1306 : decode cL_law 1306 = .ok (.invokevirtual 84, 3) := by decide +kernel
theorem dL_law_1309 : decode cL_law 1309 = .ok (.iload 5, 2) := by decide +kernel
theorem dL_law_1311 : decode cL_law 1311 = .ok (.if_icmp .eq 5, 3) := by decide +kernel
theorem dL_law_1314 : decode cL_law 1314 = .ok (.iconst 0, 1) := by decide +kernel
theorem dL_law_1315 : decode cL_law 1315 = .ok (.ireturn, 1) := by decide +kernel
theorem dL_law_1316 : decode cL_law 1316 = .ok (.iload 5, 2) := by decide +kernel
theorem dL_law_1318 : decode cL_law 1318 = .ok (.ifCond .ne 15, 3) := by decide +kernel
theorem dL_law_1321 : decode cL_law 1321 = .ok (.aload_n 3, 1) := by decide +kernel
theorem dL_law_1322 : decode cL_law 1322 = .ok (.iconst 0, 1) := by decide +kernel
theorem dL_law_1323 : decode cL_law 1323 = .ok (.laload, 1) := by decide +kernel
theorem dL_law_1324 : decode cL_law 1324 = .ok (.iload 6, 2) := by decide +kernel
theorem dL_law_1326 : decode cL_law 1326 = .ok (.i2l, 1) := by decide +kernel
theorem dL_law_1327 : decode cL_law 1327 = .ok (.lcmp, 1) := by decide +kernel
theorem dL_law_1328 : decode cL_law 1328 = .ok (.ifCond .eq 5, 3) := by decide +kernel
theorem dL_law_1331 : decode cL_law 1331 = .ok (.iconst 0, 1) := by decide +kernel
theorem dL_law_1332 : decode cL_law 1332 = .ok (.ireturn, 1) := by decide +kernel
theorem dL_law_1333 : decode cL_law 1333 = .ok (.goto 126, 3) := by decide +kernel
theorem dL_law_1336 : decode cL_law 1336 = .ok (.aload_n 1, 1) := by decide +kernel
theorem dL_law_1337 : decode cL_law 1337 = .ok (.aload_n 0, 1) := by decide +kernel
theorem dL_law_1338 : decode cL_law 1338 = .ok (.iload 4, 2) := by decide +kernel
theorem dL_law_1340 : decode cL_law 1340 = .ok (.iconst 1, 1) := by decide +kernel
theorem dL_law_1341 : decode cL_law 1341 = .ok (.iadd, 1) := by decide +kernel
theorem dL_law_1342 : decode cL_law 1342 = .ok (.iaload, 1) := by decide +kernel
theorem dL_law_1343 : decode cL_law 1343 = .ok (.aload_n 0, 1) := by decide +kernel
theorem dL_law_1344 : decode cL_law 1344 = .ok (.iload 4, 2) := by decide +kernel
theorem dL_law_1346 : decode cL_law 1346 = .ok (.iconst 2, 1) := by decide +kernel
theorem dL_law_1347 : decode cL_law 1347 = .ok (.iadd, 1) := by decide +kernel
theorem dL_law_1348 : decode cL_law 1348 = .ok (.iaload, 1) := by decide +kernel
theorem dL_law_1349 : decode cL_law 1349 = .ok (.aload_n 3, 1) := by decide +kernel
theorem dL_law_1350 : decode cL_law 1350 = .ok (.invokestatic 143, 3) := by decide +kernel
theorem dL_law_1353 : decode cL_law 1353 = .ok (.istore 5, 2) := by decide +kernel
theorem dL_law_1355 : decode cL_law 1355 = .ok (.aload_n 2, 1) := by decide +kernel
theorem dL_law_1356 : decode cL_law 1356 = .ok (.aload_n 0, 1) := by decide +kernel
theorem dL_law_1357 : decode cL_law 1357 = .ok (.iload 4, 2) := by decide +kernel
theorem dL_law_1359 : decode cL_law 1359 = .ok (.iconst 1, 1) := by decide +kernel
theorem dL_law_1360 : decode cL_law 1360 = .ok (.iadd, 1) := by decide +kernel
theorem dL_law_1361 : decode cL_law 1361 = .ok (.iaload, 1) := by decide +kernel
theorem dL_law_1362 : decode cL_law 1362 = .ok (.aload_n 0, 1) := by decide +kernel
theorem dL_law_1363 : decode cL_law 1363 = .ok (.iload 4, 2) := by decide +kernel
theorem dL_law_1365 : decode cL_law 1365 = .ok (.iconst 2, 1) := by decide +kernel
theorem dL_law_1366 : decode cL_law 1366 = .ok (.iadd, 1) := by decide +kernel
theorem dL_law_1367 : decode cL_law 1367 = .ok (.iaload, 1) := by decide +kernel
theorem dL_law_1368 : decode cL_law 1368 = .ok (.invokevirtual 145, 3) := by decide +kernel
theorem dL_law_1371 : decode cL_law 1371 = .ok (.istore 6, 2) := by decide +kernel
theorem dL_law_1373 : decode cL_law 1373 = .ok (.aload_n 2, 1) := by decide +kernel
theorem dL_law_1374 : decode cL_law 1374 = .ok (.invokevirtual 84, 3) := by decide +kernel
theorem dL_law_1377 : decode cL_law 1377 = .ok (.iload 5, 2) := by decide +kernel
theorem dL_law_1379 : decode cL_law 1379 = .ok (.if_icmp .eq 5, 3) := by decide +kernel
theorem dL_law_1382 : decode cL_law 1382 = .ok (.iconst 0, 1) := by decide +kernel
theorem dL_law_1383 : decode cL_law 1383 = .ok (.ireturn, 1) := by decide +kernel
theorem dL_law_1384 : decode cL_law 1384 = .ok (.iload 5, 2) := by decide +kernel
theorem dL_law_1386 : decode cL_law 1386 = .ok (.ifCond .ne 15, 3) := by decide +kernel
theorem dL_law_1389 : decode cL_law 1389 = .ok (.aload_n 3, 1) := by decide +kernel
theorem dL_law_1390 : decode cL_law 1390 = .ok (.iconst 0, 1) := by decide +kernel
theorem dL_law_1391 : decode cL_law 1391 = .ok (.laload, 1) := by decide +kernel
theorem dL_law_1392 : decode cL_law 1392 = .ok (.iload 6, 2) := by decide +kernel
theorem dL_law_1394 : decode cL_law 1394 = .ok (.i2l, 1) := by decide +kernel
theorem dL_law_1395 : decode cL_law 1395 = .ok (.lcmp, 1) := by decide +kernel
theorem dL_law_1396 : decode cL_law 1396 = .ok (.ifCond .eq 5, 3) := by decide +kernel
theorem dL_law_1399 : decode cL_law 1399 = .ok (.iconst 0, 1) := by decide +kernel
theorem dL_law_1400 : decode cL_law 1400 = .ok (.ireturn, 1) := by decide +kernel
theorem dL_law_1401 : decode cL_law 1401 = .ok (.goto 58, 3) := by decide +kernel
theorem dL_law_1404 : decode cL_law 1404 = .ok (.aload_n 1, 1) := by decide +kernel
theorem dL_law_1405 : decode cL_law 1405 = .ok (.invokevirtual 146, 3) := by decide +kernel
theorem dL_law_1408 : decode cL_law 1408 = .ok (.dstore 5, 2) := by decide +kernel
theorem dL_law_1410 : decode cL_law 1410 = .ok (.aload_n 2, 1) := by decide +kernel
theorem dL_law_1411 : decode cL_law 1411 = .ok (.invokevirtual 150, 3) := by decide +kernel
theorem dL_law_1414 : decode cL_law 1414 = .ok (.dstore 7, 2) := by decide +kernel
theorem dL_law_1416 : decode cL_law 1416 = .ok (.dload 5, 2) := by decide +kernel
theorem dL_law_1418 : decode cL_law 1418 = .ok (.dload 7, 2) := by decide +kernel
theorem dL_law_1420 : decode cL_law 1420 = .ok (.dcmp .l, 1) := by decide +kernel
theorem dL_law_1421 : decode cL_law 1421 = .ok (.ifCond .eq 21, 3) := by decide +kernel
theorem dL_law_1424 : decode cL_law 1424 = .ok (.dload 5, 2) := by decide +kernel
theorem dL_law_1426 : decode cL_law 1426 = .ok (.dload 5, 2) := by decide +kernel
theorem dL_law_1428 : decode cL_law 1428 = .ok (.dcmp .l, 1) := by decide +kernel
theorem dL_law_1429 : decode cL_law 1429 = .ok (.ifCond .eq 11, 3) := by decide +kernel
theorem dL_law_1432 : decode cL_law 1432 = .ok (.dload 7, 2) := by decide +kernel
theorem dL_law_1434 : decode cL_law 1434 = .ok (.dload 7, 2) := by decide +kernel
theorem dL_law_1436 : decode cL_law 1436 = .ok (.dcmp .l, 1) := by decide +kernel
theorem dL_law_1437 : decode cL_law 1437 = .ok (.ifCond .ne 5, 3) := by decide +kernel
theorem dL_law_1440 : decode cL_law 1440 = .ok (.iconst 0, 1) := by decide +kernel
theorem dL_law_1441 : decode cL_law 1441 = .ok (.ireturn, 1) := by decide +kernel
theorem dL_law_1442 : decode cL_law 1442 = .ok (.goto 17, 3) := by decide +kernel
theorem dL_law_1445 : decode cL_law 1445 = .ok (.aload_n 1, 1) := by decide +kernel
theorem dL_law_1446 : decode cL_law 1446 = .ok (.invokevirtual 151, 3) := by decide +kernel
theorem dL_law_1449 : decode cL_law 1449 = .ok (.aload_n 2, 1) := by decide +kernel
theorem dL_law_1450 : decode cL_law 1450 = .ok (.invokevirtual 155, 3) := by decide +kernel
theorem dL_law_1453 : decode cL_law 1453 = .ok (.lcmp, 1) := by decide +kernel
theorem dL_law_1454 : decode cL_law 1454 = .ok (.ifCond .eq 5, 3) := by decide +kernel
theorem dL_law_1457 : decode cL_law 1457 = .ok (.iconst 0, 1) := by decide +kernel
theorem dL_law_1458 : decode cL_law 1458 = .ok (.ireturn, 1) := by decide +kernel
theorem dL_law_1459 : decode cL_law 1459 = .ok (.iinc 4 5, 3) := by decide +kernel
theorem dL_law_1462 : decode cL_law 1462 = .ok (.goto (-1439), 3) := by decide +kernel
theorem dL_law_1465 : decode cL_law 1465 = .ok (.iconst 1, 1) := by decide +kernel
theorem dL_law_1466 : decode cL_law 1466 = .ok (.ireturn, 1) := by decide +kernel
end
section
/-- the good words of the tables: every method of ours has them all -/
def AL : List Cond := lw_tbl.filter goodWord
theorem AL_good : ∀ w ∈ AL, goodWord w = true := fun _ h => (List.mem_filter.mp h).2
theorem AL_sub : ∀ w ∈ AL, w ∈ lw_tbl := fun _ h => (List.mem_filter.mp h).1
theorem AL_s {w : Cond} (i : Nat) (h : (k2_sels lw_privs)[i]? = some w) (g : goodWord w = true) : w ∈ AL := List.mem_filter.mpr ⟨List.mem_append_left _ (List.mem_of_getElem? h), g⟩
theorem AL_1 {w : Cond} (i : Nat) (h : tables_1_1[i]? = some w) (g : goodWord w = true) : w ∈ AL := List.mem_filter.mpr ⟨List.mem_append_right _ (by unfold tables_1; exact List.mem_append_left _ (List.mem_of_getElem? h)), g⟩
theorem AT_1 {w : Cond} (i : Nat) (h : tables_1_1[i]? = some w) : w ∈ lw_tbl := List.mem_append_right _ (by unfold tables_1; exact List.mem_append_left _ (List.mem_of_getElem? h))
theorem AL_2 {w : Cond} (i : Nat) (h : tables_1_2[i]? = some w) (g : goodWord w = true) : w ∈ AL := List.mem_filter.mpr ⟨List.mem_append_right _ (by unfold tables_1; exact List.mem_append_right _ (List.mem_append_left _ (List.mem_of_getElem? h))), g⟩
theorem AT_2 {w : Cond} (i : Nat) (h : tables_1_2[i]? = some w) : w ∈ lw_tbl := List.mem_append_right _ (by unfold tables_1; exact List.mem_append_right _ (List.mem_append_left _ (List.mem_of_getElem? h)))
theorem AL_3 {w : Cond} (i : Nat) (h : tables_1_3[i]? = some w) (g : goodWord w = true) : w ∈ AL := List.mem_filter.mpr ⟨List.mem_append_right _ (by unfold tables_1; exact List.mem_append_right _ (List.mem_append_right _ (List.mem_append_left _ (List.mem_of_getElem? h)))), g⟩
theorem AT_3 {w : Cond} (i : Nat) (h : tables_1_3[i]? = some w) : w ∈ lw_tbl := List.mem_append_right _ (by unfold tables_1; exact List.mem_append_right _ (List.mem_append_right _ (List.mem_append_left _ (List.mem_of_getElem? h))))
theorem AL_4 {w : Cond} (i : Nat) (h : tables_1_4[i]? = some w) (g : goodWord w = true) : w ∈ AL := List.mem_filter.mpr ⟨List.mem_append_right _ (by unfold tables_1; exact List.mem_append_right _ (List.mem_append_right _ (List.mem_append_right _ (List.mem_append_left _ (List.mem_of_getElem? h))))), g⟩
theorem AT_4 {w : Cond} (i : Nat) (h : tables_1_4[i]? = some w) : w ∈ lw_tbl := List.mem_append_right _ (by unfold tables_1; exact List.mem_append_right _ (List.mem_append_right _ (List.mem_append_right _ (List.mem_append_left _ (List.mem_of_getElem? h)))))
theorem AL_5 {w : Cond} (i : Nat) (h : tables_1_5[i]? = some w) (g : goodWord w = true) : w ∈ AL := List.mem_filter.mpr ⟨List.mem_append_right _ (by unfold tables_1; exact List.mem_append_right _ (List.mem_append_right _ (List.mem_append_right _ (List.mem_append_right _ ((List.mem_of_getElem? h)))))), g⟩
theorem AT_5 {w : Cond} (i : Nat) (h : tables_1_5[i]? = some w) : w ∈ lw_tbl := List.mem_append_right _ (by unfold tables_1; exact List.mem_append_right _ (List.mem_append_right _ (List.mem_append_right _ (List.mem_append_right _ ((List.mem_of_getElem? h))))))
theorem wq0 : (.initialized RL : Cond) ∈ AL := AL_1 0 rfl rfl
theorem wq1 : (.initialized RX5 : Cond) ∈ AL := AL_1 1 rfl rfl
theorem wq2 : (.initialized RX1 : Cond) ∈ AL := AL_1 2 rfl rfl
theorem wq3 : (.initialized RX4 : Cond) ∈ AL := AL_1 3 rfl rfl
theorem wq4 : (.initialized RJxa1e45 : Cond) ∈ AL := AL_1 4 rfl rfl
theorem wq5 : (.initialized RJxc12de : Cond) ∈ AL := AL_1 5 rfl rfl
theorem wq6 : (.initialized RJx4a65c : Cond) ∈ AL := AL_1 6 rfl rfl
theorem wq7 : (.initialized RX6 : Cond) ∈ AL := AL_1 7 rfl rfl
theorem wq8 : (.initialized "java/lang/Throwable" : Cond) ∈ AL := AL_1 8 rfl rfl
theorem wq9 : (.initialized "java/lang/Exception" : Cond) ∈ AL := AL_1 9 rfl rfl
theorem wq10 : (.initialized "java/lang/RuntimeException" : Cond) ∈ AL := AL_1 10 rfl rfl
theorem wq11 : (.initialized "java/lang/IndexOutOfBoundsException" : Cond) ∈ AL := AL_1 11 rfl rfl
theorem wq12 : (.initialized "java/lang/IllegalArgumentException" : Cond) ∈ AL := AL_1 12 rfl rfl
theorem wq13 : (.initialized RJ15 : Cond) ∈ AL := AL_1 13 rfl rfl
theorem wq14 : (.initialized RJ3 : Cond) ∈ AL := AL_1 14 rfl rfl
theorem wq15 : (.initialized "java/lang/IllegalStateException" : Cond) ∈ AL := AL_1 15 rfl rfl
theorem wq16 : (.initialized RX2 : Cond) ∈ AL := AL_1 16 rfl rfl
theorem wq17 : (.initialized RJ8 : Cond) ∈ AL := AL_1 17 rfl rfl
theorem wq18 : (.initialized RJ9 : Cond) ∈ AL := AL_1 18 rfl rfl
theorem wq19 : (.initialized RJ7 : Cond) ∈ AL := AL_1 19 rfl rfl
theorem wq20 : (.initialized RJ10 : Cond) ∈ AL := AL_1 20 rfl rfl
theorem wq21 : (.initialized RX3 : Cond) ∈ AL := AL_1 21 rfl rfl
theorem wq22 : (.initialized RX0 : Cond) ∈ AL := AL_1 22 rfl rfl
theorem wq23 : (.classLink RL 8 RX5 : Cond) ∈ AL := AL_1 23 rfl rfl
theorem wq24 : (.instantiable RX5 3 : Cond) ∈ AL := AL_1 24 rfl rfl
theorem wq25 : (.methodLink RL 74 yX5_init : Cond) ∈ AL := AL_1 25 rfl rfl
theorem wq26 : (.instanceMethod yX5_init : Cond) ∈ AL := AL_1 26 rfl rfl
theorem wq27 : (.code yX5_init cX5_init 1 (none : Option Jvm.ClassFile.FieldType) : Cond) ∈ AL := AL_1 27 rfl rfl
theorem wq28 : (.methodLink RX5 3 objectInit : Cond) ∈ AL := AL_1 28 rfl rfl
theorem wq29 : (.instanceMethod objectInit : Cond) ∈ AL := AL_1 29 rfl rfl
theorem wq30 : (.code objectInit object_method_1_code 1 (none : Option Jvm.ClassFile.FieldType) : Cond) ∈ AL := AL_1 30 rfl rfl
theorem wq31 : (.classLink RX5 9 RX1 : Cond) ∈ AL := AL_1 31 rfl rfl
theorem wq32 : (.instantiable RX1 3 : Cond) ∈ AL := AL_1 32 rfl rfl
theorem wq34 : (.instanceMethod yX1_init : Cond) ∈ AL := AL_1 34 rfl rfl
theorem wq35 : (.code yX1_init cX1_init 1 (none : Option Jvm.ClassFile.FieldType) : Cond) ∈ AL := AL_1 35 rfl rfl
theorem wq36 : (.methodLink RX1 3 objectInit : Cond) ∈ AL := AL_1 36 rfl rfl
theorem wq37 : (.fieldLink RX1 9 "FireEngines$Ground" "kinds" "[I" : Cond) ∈ AL := AL_1 37 rfl rfl
theorem wq38 : (.fieldLink RX1 15 "FireEngines$Ground" "numbers" "[I" : Cond) ∈ AL := AL_1 38 rfl rfl
theorem wq39 : (.fieldLink RX1 18 "FireEngines$Ground" "steps" "[I" : Cond) ∈ AL := AL_1 39 rfl rfl
theorem wq40 : (.laysFinal "FireEngines$Ground" "FireEngines$Ground" "kinds" "[I" : Cond) ∈ AL := AL_1 40 rfl rfl
theorem wq42 : (.laysFinal "FireEngines$Ground" "FireEngines$Ground" "numbers" "[I" : Cond) ∈ AL := AL_1 42 rfl rfl
theorem wq44 : (.laysFinal "FireEngines$Ground" "FireEngines$Ground" "steps" "[I" : Cond) ∈ AL := AL_1 44 rfl rfl
theorem wq47 : (.arrayClass .int : Cond) ∈ AL := AL_1 47 rfl rfl
theorem wq48 : (.classLink RX5 16 RX4 : Cond) ∈ AL := AL_1 48 rfl rfl
theorem wq49 : (.instantiable RX4 4 : Cond) ∈ AL := AL_1 49 rfl rfl
theorem wq51 : (.instanceMethod yX4_init : Cond) ∈ AL := AL_1 51 rfl rfl
theorem wq52 : (.code yX4_init cX4_init 1 (none : Option Jvm.ClassFile.FieldType) : Cond) ∈ AL := AL_1 52 rfl rfl
theorem wq53 : (.methodLink RX4 3 objectInit : Cond) ∈ AL := AL_1 53 rfl rfl
theorem wq54 : (.classLink RX4 9 RJx4a65c : Cond) ∈ AL := AL_1 54 rfl rfl
theorem wq55 : (.instantiable RJx4a65c 3 : Cond) ∈ AL := AL_1 55 rfl rfl
theorem wq56 : (.methodLink RX4 11 yJx4a65c_init_da8c8 : Cond) ∈ AL := AL_1 56 rfl rfl
theorem wq57 : (.instanceMethod yJx4a65c_init_da8c8 : Cond) ∈ AL := AL_1 57 rfl rfl
theorem wq58 : (.code yJx4a65c_init_da8c8 cJx4a65c_init_da8c8 1 (none : Option Jvm.ClassFile.FieldType) : Cond) ∈ AL := AL_1 58 rfl rfl
theorem wq59 : (.methodLink RJx4a65c 1 yJxc12de_init_da8c8 : Cond) ∈ AL := AL_1 59 rfl rfl
theorem wq60 : (.instanceMethod yJxc12de_init_da8c8 : Cond) ∈ AL := AL_1 60 rfl rfl
theorem wq61 : (.code yJxc12de_init_da8c8 cJxc12de_init_da8c8 1 (none : Option Jvm.ClassFile.FieldType) : Cond) ∈ AL := AL_1 61 rfl rfl
theorem wq62 : (.methodLink RJxc12de 1 yJxa1e45_init_da8c8 : Cond) ∈ AL := AL_1 62 rfl rfl
theorem wq63 : (.instanceMethod yJxa1e45_init_da8c8 : Cond) ∈ AL := AL_1 63 rfl rfl
theorem wq64 : (.code yJxa1e45_init_da8c8 cJxa1e45_init_da8c8 1 (none : Option Jvm.ClassFile.FieldType) : Cond) ∈ AL := AL_1 64 rfl rfl
theorem wq65 : (.methodLink RJxa1e45 1 objectInit : Cond) ∈ AL := AL_1 65 rfl rfl
theorem wq66 : (.fieldLink RJx4a65c 39 "java/util/ArrayList" "DEFAULTCAPACITY_EMPTY_ELEMENTDATA" "[Ljava/lang/Object;" : Cond) ∈ AL := AL_1 66 rfl rfl
theorem wt67 : (.laysStatic "java/util/ArrayList" "DEFAULTCAPACITY_EMPTY_ELEMENTDATA" "[Ljava/lang/Object;" : Cond) ∈ lw_tbl := AT_1 67 rfl
theorem wq68 : (.fieldLink RJx4a65c 9 "java/util/ArrayList" "elementData" "[Ljava/lang/Object;" : Cond) ∈ AL := AL_1 68 rfl rfl
theorem wq69 : (.fieldLink RJx4a65c 48 "java/util/ArrayList" "size" "I" : Cond) ∈ AL := AL_1 69 rfl rfl
theorem wq70 : (.fieldLink RJxc12de 7 "java/util/AbstractList" "modCount" "I" : Cond) ∈ AL := AL_1 70 rfl rfl
theorem wq71 : (.fieldLink RJx4a65c 63 "java/util/ArrayList" "modCount" "I" : Cond) ∈ AL := AL_1 71 rfl rfl
theorem wq72 : (.sameField "java/util/ArrayList" "java/util/AbstractList" "modCount" "I" : Cond) ∈ AL := AL_1 72 rfl rfl
theorem wq73 : (.lays "java/util/ArrayList" "java/util/ArrayList" "elementData" "[Ljava/lang/Object;" : Cond) ∈ AL := AL_1 73 rfl rfl
theorem wq75 : (.lays "java/util/ArrayList" "java/util/ArrayList" "size" "I" : Cond) ∈ AL := AL_1 75 rfl rfl
theorem wq77 : (.lays "java/util/ArrayList" "java/util/AbstractList" "modCount" "I" : Cond) ∈ AL := AL_1 77 rfl rfl
theorem wq80 : (.fieldLink RX4 24 "FireEngines$Town" "minute" "I" : Cond) ∈ AL := AL_1 80 rfl rfl
theorem wq81 : (.fieldLink RX4 12 "FireEngines$Town" "houses" "Ljava/util/ArrayList;" : Cond) ∈ AL := AL_1 81 rfl rfl
theorem wq83 : (.fieldLink RX4 18 "FireEngines$Town" "ponds" "Ljava/util/ArrayList;" : Cond) ∈ AL := AL_1 83 rfl rfl
theorem wq85 : (.fieldLink RX4 21 "FireEngines$Town" "engines" "Ljava/util/ArrayList;" : Cond) ∈ AL := AL_1 85 rfl rfl
theorem wq87 : (.lays "FireEngines$Town" "FireEngines$Town" "minute" "I" : Cond) ∈ AL := AL_1 87 rfl rfl
theorem wq89 : (.laysFinal "FireEngines$Town" "FireEngines$Town" "houses" "Ljava/util/ArrayList;" : Cond) ∈ AL := AL_1 89 rfl rfl
theorem wq91 : (.laysFinal "FireEngines$Town" "FireEngines$Town" "ponds" "Ljava/util/ArrayList;" : Cond) ∈ AL := AL_1 91 rfl rfl
theorem wq93 : (.laysFinal "FireEngines$Town" "FireEngines$Town" "engines" "Ljava/util/ArrayList;" : Cond) ∈ AL := AL_1 93 rfl rfl
theorem wq96 : (.fieldLink RX5 12 "FireEngines" "ground" "LFireEngines$Ground;" : Cond) ∈ AL := AL_1 96 rfl rfl
theorem wq97 : (.fieldLink RX5 19 "FireEngines" "town" "LFireEngines$Town;" : Cond) ∈ AL := AL_1 97 rfl rfl
theorem wq98 : (.fieldLink RX5 23 "FireEngines" "ahead" "LFireEngines$Town;" : Cond) ∈ AL := AL_1 98 rfl rfl
theorem wq99 : (.laysFinal "FireEngines" "FireEngines" "ground" "LFireEngines$Ground;" : Cond) ∈ AL := AL_1 99 rfl rfl
theorem wq101 : (.laysFinal "FireEngines" "FireEngines" "town" "LFireEngines$Town;" : Cond) ∈ AL := AL_1 101 rfl rfl
theorem wq103 : (.laysFinal "FireEngines" "FireEngines" "ahead" "LFireEngines$Town;" : Cond) ∈ AL := AL_1 103 rfl rfl
theorem wq106 : (.methodLink RL 136 yX5_lasts : Cond) ∈ AL := AL_1 106 rfl rfl
theorem wq107 : (.instanceMethod yX5_lasts : Cond) ∈ AL := AL_1 107 rfl rfl
theorem wq108 : (.selects RX5 yX5_lasts yX5_lasts : Cond) ∈ AL := AL_1 108 rfl rfl
theorem wq109 : (.code yX5_lasts cX5_lasts 2 (some .int) : Cond) ∈ AL := AL_1 109 rfl rfl
theorem wq110 : (.methodLink RX5 174 yX4_copyFrom : Cond) ∈ AL := AL_1 110 rfl rfl
theorem wq111 : (.instanceMethod yX4_copyFrom : Cond) ∈ AL := AL_1 111 rfl rfl
theorem wq112 : (.selects RX4 yX4_copyFrom yX4_copyFrom : Cond) ∈ AL := AL_1 112 rfl rfl
theorem wq113 : (.code yX4_copyFrom cX4_copyFrom 3 (none : Option Jvm.ClassFile.FieldType) : Cond) ∈ AL := AL_1 113 rfl rfl
theorem wq114 : (.methodLink RX4 28 yJx4a65c_size_8abf5 : Cond) ∈ AL := AL_1 114 rfl rfl
theorem wq115 : (.instanceMethod yJx4a65c_size_8abf5 : Cond) ∈ AL := AL_1 115 rfl rfl
theorem wq116 : (.selects RJx4a65c yJx4a65c_size_8abf5 yJx4a65c_size_8abf5 : Cond) ∈ AL := AL_1 116 rfl rfl
theorem wq117 : (.code yJx4a65c_size_8abf5 cJx4a65c_size_8abf5 1 (some .int) : Cond) ∈ AL := AL_1 117 rfl rfl
theorem wq118 : (.classLink RX4 32 RX2 : Cond) ∈ AL := AL_1 118 rfl rfl
theorem wq119 : (.instantiable RX2 7 : Cond) ∈ AL := AL_1 119 rfl rfl
theorem wq120 : (.methodLink RX4 34 yX2_init : Cond) ∈ AL := AL_1 120 rfl rfl
theorem wq121 : (.instanceMethod yX2_init : Cond) ∈ AL := AL_1 121 rfl rfl
theorem wq122 : (.code yX2_init cX2_init 4 (none : Option Jvm.ClassFile.FieldType) : Cond) ∈ AL := AL_1 122 rfl rfl
theorem wq123 : (.methodLink RX2 3 objectInit : Cond) ∈ AL := AL_1 123 rfl rfl
theorem wq124 : (.fieldLink RX2 9 "FireEngines$House" "cell" "I" : Cond) ∈ AL := AL_1 124 rfl rfl
theorem wq127 : (.fieldLink RX2 15 "FireEngines$House" "wood" "I" : Cond) ∈ AL := AL_1 127 rfl rfl
theorem wq128 : (.fieldLink RX2 18 "FireEngines$House" "walls" "I" : Cond) ∈ AL := AL_1 128 rfl rfl
theorem wq130 : (.fieldLink RX2 21 "FireEngines$House" "state" "I" : Cond) ∈ AL := AL_1 130 rfl rfl
theorem wq133 : (.fieldLink RX2 24 "FireEngines$House" "heat" "I" : Cond) ∈ AL := AL_1 133 rfl rfl
theorem wq135 : (.fieldLink RX2 27 "FireEngines$House" "came" "I" : Cond) ∈ AL := AL_1 135 rfl rfl
theorem wq137 : (.fieldLink RX2 30 "FireEngines$House" "cameInAll" "I" : Cond) ∈ AL := AL_1 137 rfl rfl
theorem wq138 : (.lays "FireEngines$House" "FireEngines$House" "cell" "I" : Cond) ∈ AL := AL_1 138 rfl rfl
theorem wq140 : (.lays "FireEngines$House" "FireEngines$House" "wood" "I" : Cond) ∈ AL := AL_1 140 rfl rfl
theorem wq142 : (.lays "FireEngines$House" "FireEngines$House" "walls" "I" : Cond) ∈ AL := AL_1 142 rfl rfl
theorem wq144 : (.lays "FireEngines$House" "FireEngines$House" "state" "I" : Cond) ∈ AL := AL_1 144 rfl rfl
theorem wq146 : (.lays "FireEngines$House" "FireEngines$House" "heat" "I" : Cond) ∈ AL := AL_1 146 rfl rfl
theorem wq148 : (.lays "FireEngines$House" "FireEngines$House" "came" "I" : Cond) ∈ AL := AL_1 148 rfl rfl
theorem wq150 : (.lays "FireEngines$House" "FireEngines$House" "cameInAll" "I" : Cond) ∈ AL := AL_1 150 rfl rfl
theorem wq153 : (.methodLink RX4 37 yJx4a65c_add_9ea2d : Cond) ∈ AL := AL_1 153 rfl rfl
theorem wq154 : (.instanceMethod yJx4a65c_add_9ea2d : Cond) ∈ AL := AL_1 154 rfl rfl
theorem wq155 : (.selects RJx4a65c yJx4a65c_add_9ea2d yJx4a65c_add_9ea2d : Cond) ∈ AL := AL_1 155 rfl rfl
theorem wq156 : (.code yJx4a65c_add_9ea2d cJx4a65c_add_9ea2d 2 (some .boolean) : Cond) ∈ AL := AL_1 156 rfl rfl
theorem wq157 : (.methodLink RJx4a65c 131 yJx4a65c_add_72be8 : Cond) ∈ AL := AL_1 157 rfl rfl
theorem wq159 : (.instanceMethod yJx4a65c_add_72be8 : Cond) ∈ AL := AL_1 159 rfl rfl
theorem wq160 : (.code yJx4a65c_add_72be8 cJx4a65c_add_72be8 4 (none : Option Jvm.ClassFile.FieldType) : Cond) ∈ AL := AL_1 160 rfl rfl
theorem wq161 : (.methodLink RJx4a65c 129 yJx4a65c_grow_d5877 : Cond) ∈ AL := AL_1 161 rfl rfl
theorem wq163 : (.instanceMethod yJx4a65c_grow_d5877 : Cond) ∈ AL := AL_1 163 rfl rfl
theorem wq164 : (.code yJx4a65c_grow_d5877 cJx4a65c_grow_d5877 1 (some (.array (.object "java/lang/Object"))) : Cond) ∈ AL := AL_1 164 rfl rfl
theorem wq165 : (.methodLink RJx4a65c 69 yJx4a65c_grow_92f84 : Cond) ∈ AL := AL_1 165 rfl rfl
theorem wq167 : (.instanceMethod yJx4a65c_grow_92f84 : Cond) ∈ AL := AL_1 167 rfl rfl
theorem wq168 : (.code yJx4a65c_grow_92f84 cJx4a65c_grow_92f84 4 (some (.array (.object "java/lang/Object"))) : Cond) ∈ AL := AL_1 168 rfl rfl
theorem wq169 : (.methodLink RJx4a65c 73 yJ8_newLength_cabcc : Cond) ∈ AL := AL_1 169 rfl rfl
theorem wq170 : (.static yJ8_newLength_cabcc : Cond) ∈ AL := AL_1 170 rfl rfl
theorem wq171 : (.code yJ8_newLength_cabcc cJ8_newLength_cabcc 4 (some .int) : Cond) ∈ AL := AL_1 171 rfl rfl
theorem wq172 : (.methodLink RJ8 194 Lib.Math.max.name : Cond) ∈ AL := AL_1 172 rfl rfl
theorem wq173 : (.static Lib.Math.max.name : Cond) ∈ AL := AL_1 173 rfl rfl
theorem wq174 : (.code Lib.Math.max.name cJ9_max_7cf53 2 (some .int) : Cond) ∈ AL := AL_1 174 rfl rfl
theorem wq175 : (.constant RJ8 200 (2147483639) : Cond) ∈ AL := AL_1 175 rfl rfl
theorem wq176 : (.methodLink RJ8 201 yJ8_hugeLength_7cf53 : Cond) ∈ AL := AL_1 176 rfl rfl
theorem wq177 : (.static yJ8_hugeLength_7cf53 : Cond) ∈ AL := AL_1 177 rfl rfl
theorem wq178 : (.code yJ8_hugeLength_7cf53 cJ8_hugeLength_7cf53 3 (some .int) : Cond) ∈ AL := AL_1 178 rfl rfl
theorem wq179 : (.methodLink RJx4a65c 66 yJ7_copyOf_1904c : Cond) ∈ AL := AL_1 179 rfl rfl
theorem wq180 : (.static yJ7_copyOf_1904c : Cond) ∈ AL := AL_1 180 rfl rfl
theorem wq181 : (.code yJ7_copyOf_1904c cJ7_copyOf_1904c 2 (some (.array (.object "java/lang/Object"))) : Cond) ∈ AL := AL_1 181 rfl rfl
theorem wq182 : (.methodLink RJ7 86 ⟨"java/lang/Object", "getClass", "()Ljava/lang/Class;"⟩ : Cond) ∈ AL := AL_1 182 rfl rfl
theorem wq183 : (.instanceMethod ⟨"java/lang/Object", "getClass", "()Ljava/lang/Class;"⟩ : Cond) ∈ AL := AL_1 183 rfl rfl
theorem wq184 : (.sameMethod "java/lang/Object" "java/lang/Object" "getClass" "()Ljava/lang/Class;" : Cond) ∈ AL := AL_1 184 rfl rfl
theorem wq185 : (.selects RX5 ⟨"java/lang/Object", "getClass", "()Ljava/lang/Class;"⟩ ⟨"java/lang/Object", "getClass", "()Ljava/lang/Class;"⟩ : Cond) ∈ AL := AL_1 185 rfl rfl
theorem wq186 : (.selects RX0 ⟨"java/lang/Object", "getClass", "()Ljava/lang/Class;"⟩ ⟨"java/lang/Object", "getClass", "()Ljava/lang/Class;"⟩ : Cond) ∈ AL := AL_1 186 rfl rfl
theorem wq187 : (.selects RX1 ⟨"java/lang/Object", "getClass", "()Ljava/lang/Class;"⟩ ⟨"java/lang/Object", "getClass", "()Ljava/lang/Class;"⟩ : Cond) ∈ AL := AL_1 187 rfl rfl
theorem wq188 : (.selects RX2 ⟨"java/lang/Object", "getClass", "()Ljava/lang/Class;"⟩ ⟨"java/lang/Object", "getClass", "()Ljava/lang/Class;"⟩ : Cond) ∈ AL := AL_1 188 rfl rfl
theorem wq189 : (.selects RX3 ⟨"java/lang/Object", "getClass", "()Ljava/lang/Class;"⟩ ⟨"java/lang/Object", "getClass", "()Ljava/lang/Class;"⟩ : Cond) ∈ AL := AL_1 189 rfl rfl
theorem wq190 : (.selects RX4 ⟨"java/lang/Object", "getClass", "()Ljava/lang/Class;"⟩ ⟨"java/lang/Object", "getClass", "()Ljava/lang/Class;"⟩ : Cond) ∈ AL := AL_1 190 rfl rfl
theorem wq191 : (.selects RX6 ⟨"java/lang/Object", "getClass", "()Ljava/lang/Class;"⟩ ⟨"java/lang/Object", "getClass", "()Ljava/lang/Class;"⟩ : Cond) ∈ AL := AL_1 191 rfl rfl
theorem wq192 : (.selects "java/lang/IllegalArgumentException" ⟨"java/lang/Object", "getClass", "()Ljava/lang/Class;"⟩ ⟨"java/lang/Object", "getClass", "()Ljava/lang/Class;"⟩ : Cond) ∈ AL := AL_1 192 rfl rfl
theorem wq193 : (.selects "java/lang/IllegalStateException" ⟨"java/lang/Object", "getClass", "()Ljava/lang/Class;"⟩ ⟨"java/lang/Object", "getClass", "()Ljava/lang/Class;"⟩ : Cond) ∈ AL := AL_1 193 rfl rfl
theorem wq194 : (.selects "java/lang/IndexOutOfBoundsException" ⟨"java/lang/Object", "getClass", "()Ljava/lang/Class;"⟩ ⟨"java/lang/Object", "getClass", "()Ljava/lang/Class;"⟩ : Cond) ∈ AL := AL_1 194 rfl rfl
theorem wq195 : (.selects RJx4a65c ⟨"java/lang/Object", "getClass", "()Ljava/lang/Class;"⟩ ⟨"java/lang/Object", "getClass", "()Ljava/lang/Class;"⟩ : Cond) ∈ AL := AL_1 195 rfl rfl
theorem wq196 : (.native ⟨"java/lang/Object", "getClass", "()Ljava/lang/Class;"⟩ : Cond) ∈ AL := AL_1 196 rfl rfl
theorem wq197 : (.methodLink RJ7 300 yJ7_copyOf_6403c : Cond) ∈ AL := AL_1 197 rfl rfl
theorem wq198 : (.static yJ7_copyOf_6403c : Cond) ∈ AL := AL_1 198 rfl rfl
theorem wq199 : (.code yJ7_copyOf_6403c cJ7_copyOf_6403c 4 (some (.array (.object "java/lang/Object"))) : Cond) ∈ AL := AL_1 199 rfl rfl
theorem wq200 : (.classLink RJ7 110 "[Ljava/lang/Object;" : Cond) ∈ AL := AL_1 200 rfl rfl
theorem wt201 : (.arrayOver (.object "java/lang/Object") : Cond) ∈ lw_tbl := AT_1 201 rfl
theorem wq202 : (.classLink RJ7 2 "java/lang/Object" : Cond) ∈ AL := AL_1 202 rfl rfl
theorem wq203 : (.methodLink RJ7 304 Lib.Math.min.name : Cond) ∈ AL := AL_1 203 rfl rfl
theorem wq204 : (.static Lib.Math.min.name : Cond) ∈ AL := AL_1 204 rfl rfl
theorem wq205 : (.code Lib.Math.min.name cJ9_min_7cf53 2 (some .int) : Cond) ∈ AL := AL_1 205 rfl rfl
theorem wq206 : (.methodLink RJ7 150 arraycopyName : Cond) ∈ AL := AL_1 206 rfl rfl
theorem wq207 : (.static arraycopyName : Cond) ∈ AL := AL_1 207 rfl rfl
theorem wq208 : (.native arraycopyName : Cond) ∈ AL := AL_1 208 rfl rfl
theorem wq209 : (.methodLink RJx4a65c 79 Lib.Math.max.name : Cond) ∈ AL := AL_1 209 rfl rfl
theorem wq210 : (.classLink RJx4a65c 7 "java/lang/Object" : Cond) ∈ AL := AL_1 210 rfl rfl
theorem wq211 : (.methodLink RX4 41 yJx4a65c_get_915e3 : Cond) ∈ AL := AL_1 211 rfl rfl
theorem wq212 : (.instanceMethod yJx4a65c_get_915e3 : Cond) ∈ AL := AL_1 212 rfl rfl
theorem wq213 : (.selects RJx4a65c yJx4a65c_get_915e3 yJx4a65c_get_915e3 : Cond) ∈ AL := AL_1 213 rfl rfl
theorem wq214 : (.code yJx4a65c_get_915e3 cJx4a65c_get_915e3 2 (some (.object "java/lang/Object")) : Cond) ∈ AL := AL_1 214 rfl rfl
theorem wq215 : (.methodLink RJx4a65c 118 yJ15_checkIndex_7cf53 : Cond) ∈ AL := AL_1 215 rfl rfl
theorem wq216 : (.static yJ15_checkIndex_7cf53 : Cond) ∈ AL := AL_1 216 rfl rfl
theorem wq217 : (.code yJ15_checkIndex_7cf53 cJ15_checkIndex_7cf53 2 (some .int) : Cond) ∈ AL := AL_1 217 rfl rfl
theorem wq218 : (.methodLink RJ15 105 yJ3_checkIndex_8e157 : Cond) ∈ AL := AL_1 218 rfl rfl
theorem wq219 : (.static yJ3_checkIndex_8e157 : Cond) ∈ AL := AL_1 219 rfl rfl
theorem wq220 : (.code yJ3_checkIndex_8e157 cJ3_checkIndex_8e157 3 (some .int) : Cond) ∈ AL := AL_1 220 rfl rfl
theorem wq221 : (.methodLink RJx4a65c 123 yJx4a65c_elementData_915e3 : Cond) ∈ AL := AL_1 221 rfl rfl
theorem wq222 : (.instanceMethod yJx4a65c_elementData_915e3 : Cond) ∈ AL := AL_1 222 rfl rfl
theorem wq223 : (.selects RJx4a65c yJx4a65c_elementData_915e3 yJx4a65c_elementData_915e3 : Cond) ∈ AL := AL_1 223 rfl rfl
theorem wq224 : (.code yJx4a65c_elementData_915e3 cJx4a65c_elementData_915e3 2 (some (.object "java/lang/Object")) : Cond) ∈ AL := AL_1 224 rfl rfl
theorem wq225 : (.methodLink RX4 45 yX2_copyFrom : Cond) ∈ AL := AL_1 225 rfl rfl
theorem wq226 : (.instanceMethod yX2_copyFrom : Cond) ∈ AL := AL_1 226 rfl rfl
theorem wq227 : (.selects RX2 yX2_copyFrom yX2_copyFrom : Cond) ∈ AL := AL_1 227 rfl rfl
theorem wq228 : (.code yX2_copyFrom cX2_copyFrom 2 (none : Option Jvm.ClassFile.FieldType) : Cond) ∈ AL := AL_1 228 rfl rfl
theorem wq229 : (.classLink RX4 49 RX3 : Cond) ∈ AL := AL_1 229 rfl rfl
theorem wq230 : (.instantiable RX3 2 : Cond) ∈ AL := AL_1 230 rfl rfl
theorem wq231 : (.methodLink RX4 51 yX3_init : Cond) ∈ AL := AL_1 231 rfl rfl
theorem wq232 : (.instanceMethod yX3_init : Cond) ∈ AL := AL_1 232 rfl rfl
theorem wq233 : (.code yX3_init cX3_init 3 (none : Option Jvm.ClassFile.FieldType) : Cond) ∈ AL := AL_1 233 rfl rfl
theorem wq234 : (.methodLink RX3 1 objectInit : Cond) ∈ AL := AL_1 234 rfl rfl
theorem wq235 : (.fieldLink RX3 7 "FireEngines$Pond" "cell" "I" : Cond) ∈ AL := AL_1 235 rfl rfl
theorem wq238 : (.fieldLink RX3 13 "FireEngines$Pond" "water" "I" : Cond) ∈ AL := AL_1 238 rfl rfl
theorem wq241 : (.lays "FireEngines$Pond" "FireEngines$Pond" "cell" "I" : Cond) ∈ AL := AL_2 1 rfl rfl
theorem wq243 : (.lays "FireEngines$Pond" "FireEngines$Pond" "water" "I" : Cond) ∈ AL := AL_2 3 rfl rfl
theorem wq246 : (.methodLink RX4 54 yX3_copyFrom : Cond) ∈ AL := AL_2 6 rfl rfl
theorem wq247 : (.instanceMethod yX3_copyFrom : Cond) ∈ AL := AL_2 7 rfl rfl
theorem wq248 : (.selects RX3 yX3_copyFrom yX3_copyFrom : Cond) ∈ AL := AL_2 8 rfl rfl
theorem wq249 : (.code yX3_copyFrom cX3_copyFrom 2 (none : Option Jvm.ClassFile.FieldType) : Cond) ∈ AL := AL_2 9 rfl rfl
theorem wq250 : (.classLink RX4 57 RX0 : Cond) ∈ AL := AL_2 10 rfl rfl
theorem wq251 : (.instantiable RX0 11 : Cond) ∈ AL := AL_2 11 rfl rfl
theorem wq252 : (.methodLink RX4 59 yX0_init : Cond) ∈ AL := AL_2 12 rfl rfl
theorem wq253 : (.instanceMethod yX0_init : Cond) ∈ AL := AL_2 13 rfl rfl
theorem wq254 : (.code yX0_init cX0_init 4 (none : Option Jvm.ClassFile.FieldType) : Cond) ∈ AL := AL_2 14 rfl rfl
theorem wq255 : (.methodLink RX0 3 objectInit : Cond) ∈ AL := AL_2 15 rfl rfl
theorem wq256 : (.fieldLink RX0 9 "FireEngines$Engine" "cell" "I" : Cond) ∈ AL := AL_2 16 rfl rfl
theorem wq259 : (.fieldLink RX0 15 "FireEngines$Engine" "horses" "I" : Cond) ∈ AL := AL_2 19 rfl rfl
theorem wq261 : (.fieldLink RX0 18 "FireEngines$Engine" "power" "I" : Cond) ∈ AL := AL_2 21 rfl rfl
theorem wq263 : (.fieldLink RX0 21 "FireEngines$Engine" "coal" "I" : Cond) ∈ AL := AL_2 23 rfl rfl
theorem wq266 : (.fieldLink RX0 30 "FireEngines$Engine" "steam" "I" : Cond) ∈ AL := AL_2 26 rfl rfl
theorem wq268 : (.fieldLink RX0 33 "FireEngines$Engine" "minutesLeft" "I" : Cond) ∈ AL := AL_2 28 rfl rfl
theorem wq271 : (.fieldLink RX0 24 "FireEngines$Engine" "goal" "I" : Cond) ∈ AL := AL_2 31 rfl rfl
theorem wq273 : (.fieldLink RX0 27 "FireEngines$Engine" "hose" "I" : Cond) ∈ AL := AL_2 33 rfl rfl
theorem wq276 : (.fieldLink RX0 36 "FireEngines$Engine" "came" "I" : Cond) ∈ AL := AL_2 36 rfl rfl
theorem wq278 : (.fieldLink RX0 39 "FireEngines$Engine" "gave" "I" : Cond) ∈ AL := AL_2 38 rfl rfl
theorem wq280 : (.fieldLink RX0 42 "FireEngines$Engine" "asked" "Z" : Cond) ∈ AL := AL_2 40 rfl rfl
theorem wq282 : (.lays "FireEngines$Engine" "FireEngines$Engine" "cell" "I" : Cond) ∈ AL := AL_2 42 rfl rfl
theorem wq284 : (.lays "FireEngines$Engine" "FireEngines$Engine" "horses" "I" : Cond) ∈ AL := AL_2 44 rfl rfl
theorem wq286 : (.lays "FireEngines$Engine" "FireEngines$Engine" "power" "I" : Cond) ∈ AL := AL_2 46 rfl rfl
theorem wq288 : (.lays "FireEngines$Engine" "FireEngines$Engine" "coal" "I" : Cond) ∈ AL := AL_2 48 rfl rfl
theorem wq290 : (.lays "FireEngines$Engine" "FireEngines$Engine" "steam" "I" : Cond) ∈ AL := AL_2 50 rfl rfl
theorem wq292 : (.lays "FireEngines$Engine" "FireEngines$Engine" "minutesLeft" "I" : Cond) ∈ AL := AL_2 52 rfl rfl
theorem wq294 : (.lays "FireEngines$Engine" "FireEngines$Engine" "goal" "I" : Cond) ∈ AL := AL_2 54 rfl rfl
theorem wq296 : (.lays "FireEngines$Engine" "FireEngines$Engine" "hose" "I" : Cond) ∈ AL := AL_2 56 rfl rfl
theorem wq298 : (.lays "FireEngines$Engine" "FireEngines$Engine" "came" "I" : Cond) ∈ AL := AL_2 58 rfl rfl
theorem wq300 : (.lays "FireEngines$Engine" "FireEngines$Engine" "gave" "I" : Cond) ∈ AL := AL_2 60 rfl rfl
theorem wq302 : (.lays "FireEngines$Engine" "FireEngines$Engine" "asked" "Z" : Cond) ∈ AL := AL_2 62 rfl rfl
theorem wq305 : (.methodLink RX4 60 yX0_copyFrom : Cond) ∈ AL := AL_2 65 rfl rfl
theorem wq306 : (.instanceMethod yX0_copyFrom : Cond) ∈ AL := AL_2 66 rfl rfl
theorem wq307 : (.selects RX0 yX0_copyFrom yX0_copyFrom : Cond) ∈ AL := AL_2 67 rfl rfl
theorem wq308 : (.code yX0_copyFrom cX0_copyFrom 2 (none : Option Jvm.ClassFile.FieldType) : Cond) ∈ AL := AL_2 68 rfl rfl
theorem wq309 : (.methodLink RX5 89 yX4_housesThatAre : Cond) ∈ AL := AL_2 69 rfl rfl
theorem wq310 : (.instanceMethod yX4_housesThatAre : Cond) ∈ AL := AL_2 70 rfl rfl
theorem wq311 : (.selects RX4 yX4_housesThatAre yX4_housesThatAre : Cond) ∈ AL := AL_2 71 rfl rfl
theorem wq312 : (.code yX4_housesThatAre cX4_housesThatAre 4 (some .int) : Cond) ∈ AL := AL_2 72 rfl rfl
theorem wq313 : (.methodLink RX5 170 yX4_goOn : Cond) ∈ AL := AL_2 73 rfl rfl
theorem wq314 : (.instanceMethod yX4_goOn : Cond) ∈ AL := AL_2 74 rfl rfl
theorem wq315 : (.selects RX4 yX4_goOn yX4_goOn : Cond) ∈ AL := AL_2 75 rfl rfl
theorem wq316 : (.code yX4_goOn cX4_goOn 5 (some .int) : Cond) ∈ AL := AL_2 76 rfl rfl
theorem wq317 : (.methodLink RX4 133 yX4_fireAndDrive : Cond) ∈ AL := AL_2 77 rfl rfl
theorem wq319 : (.instanceMethod yX4_fireAndDrive : Cond) ∈ AL := AL_2 79 rfl rfl
theorem wq320 : (.code yX4_fireAndDrive cX4_fireAndDrive 2 (none : Option Jvm.ClassFile.FieldType) : Cond) ∈ AL := AL_2 80 rfl rfl
theorem wq321 : (.methodLink RX4 145 yX0_fire : Cond) ∈ AL := AL_2 81 rfl rfl
theorem wq322 : (.instanceMethod yX0_fire : Cond) ∈ AL := AL_2 82 rfl rfl
theorem wq323 : (.selects RX0 yX0_fire yX0_fire : Cond) ∈ AL := AL_2 83 rfl rfl
theorem wq324 : (.code yX0_fire cX0_fire 1 (none : Option Jvm.ClassFile.FieldType) : Cond) ∈ AL := AL_2 84 rfl rfl
theorem wq325 : (.methodLink RX0 50 Lib.Math.min.name : Cond) ∈ AL := AL_2 85 rfl rfl
theorem wq326 : (.methodLink RX0 56 Lib.Math.max.name : Cond) ∈ AL := AL_2 86 rfl rfl
theorem wq327 : (.methodLink RX4 148 yX0_driveAMinute : Cond) ∈ AL := AL_2 87 rfl rfl
theorem wq328 : (.instanceMethod yX0_driveAMinute : Cond) ∈ AL := AL_2 88 rfl rfl
theorem wq329 : (.selects RX0 yX0_driveAMinute yX0_driveAMinute : Cond) ∈ AL := AL_2 89 rfl rfl
theorem wq330 : (.code yX0_driveAMinute cX0_driveAMinute 1 (none : Option Jvm.ClassFile.FieldType) : Cond) ∈ AL := AL_2 90 rfl rfl
theorem wq331 : (.methodLink RX0 46 yX0_stands : Cond) ∈ AL := AL_2 91 rfl rfl
theorem wq332 : (.instanceMethod yX0_stands : Cond) ∈ AL := AL_2 92 rfl rfl
theorem wq333 : (.selects RX0 yX0_stands yX0_stands : Cond) ∈ AL := AL_2 93 rfl rfl
theorem wq334 : (.code yX0_stands cX0_stands 1 (some .boolean) : Cond) ∈ AL := AL_2 94 rfl rfl
theorem wq335 : (.methodLink RX4 136 yX4_moveWater : Cond) ∈ AL := AL_2 95 rfl rfl
theorem wq337 : (.instanceMethod yX4_moveWater : Cond) ∈ AL := AL_2 97 rfl rfl
theorem wq338 : (.code yX4_moveWater cX4_moveWater 4 (none : Option Jvm.ClassFile.FieldType) : Cond) ∈ AL := AL_2 98 rfl rfl
theorem wq339 : (.methodLink RX4 159 yX4_nextToAsk : Cond) ∈ AL := AL_2 99 rfl rfl
theorem wq341 : (.instanceMethod yX4_nextToAsk : Cond) ∈ AL := AL_2 101 rfl rfl
theorem wq342 : (.code yX4_nextToAsk cX4_nextToAsk 2 (some .int) : Cond) ∈ AL := AL_2 102 rfl rfl
theorem wq343 : (.methodLink RX4 171 yX4_waitsForWater : Cond) ∈ AL := AL_2 103 rfl rfl
theorem wq345 : (.instanceMethod yX4_waitsForWater : Cond) ∈ AL := AL_2 105 rfl rfl
theorem wq346 : (.code yX4_waitsForWater cX4_waitsForWater 4 (some .boolean) : Cond) ∈ AL := AL_2 106 rfl rfl
theorem wq347 : (.methodLink RX4 129 yX4_isEngine : Cond) ∈ AL := AL_2 107 rfl rfl
theorem wq349 : (.instanceMethod yX4_isEngine : Cond) ∈ AL := AL_2 109 rfl rfl
theorem wq350 : (.code yX4_isEngine cX4_isEngine 2 (some .boolean) : Cond) ∈ AL := AL_2 110 rfl rfl
theorem wq351 : (.methodLink RX4 162 yX4_ask : Cond) ∈ AL := AL_2 111 rfl rfl
theorem wq353 : (.instanceMethod yX4_ask : Cond) ∈ AL := AL_2 113 rfl rfl
theorem wq354 : (.code yX4_ask cX4_ask 5 (none : Option Jvm.ClassFile.FieldType) : Cond) ∈ AL := AL_2 114 rfl rfl
theorem wq355 : (.methodLink RX4 101 yX0_canPump : Cond) ∈ AL := AL_2 115 rfl rfl
theorem wq356 : (.instanceMethod yX0_canPump : Cond) ∈ AL := AL_2 116 rfl rfl
theorem wq357 : (.selects RX0 yX0_canPump yX0_canPump : Cond) ∈ AL := AL_2 117 rfl rfl
theorem wq358 : (.code yX0_canPump cX0_canPump 1 (some .int) : Cond) ∈ AL := AL_2 118 rfl rfl
theorem wq359 : (.methodLink RX4 94 yX4_pondBy : Cond) ∈ AL := AL_2 119 rfl rfl
theorem wq361 : (.instanceMethod yX4_pondBy : Cond) ∈ AL := AL_2 121 rfl rfl
theorem wq362 : (.code yX4_pondBy cX4_pondBy 3 (some .int) : Cond) ∈ AL := AL_2 122 rfl rfl
theorem wq363 : (.methodLink RX4 124 yX0_stands : Cond) ∈ AL := AL_2 123 rfl rfl
theorem wq365 : (.static yX5_areNear : Cond) ∈ AL := AL_2 125 rfl rfl
theorem wq366 : (.code yX5_areNear cX5_areNear 4 (some .boolean) : Cond) ∈ AL := AL_2 126 rfl rfl
theorem wq367 : (.methodLink RX4 174 yX3_giveUpTo : Cond) ∈ AL := AL_2 127 rfl rfl
theorem wq368 : (.instanceMethod yX3_giveUpTo : Cond) ∈ AL := AL_2 128 rfl rfl
theorem wq369 : (.selects RX3 yX3_giveUpTo yX3_giveUpTo : Cond) ∈ AL := AL_2 129 rfl rfl
theorem wq370 : (.code yX3_giveUpTo cX3_giveUpTo 3 (some .int) : Cond) ∈ AL := AL_2 130 rfl rfl
theorem wq371 : (.methodLink RX3 16 Lib.Math.min.name : Cond) ∈ AL := AL_2 131 rfl rfl
theorem wq372 : (.methodLink RX3 22 Lib.Math.max.name : Cond) ∈ AL := AL_2 132 rfl rfl
theorem wq373 : (.methodLink RX4 177 Lib.Math.min.name : Cond) ∈ AL := AL_2 133 rfl rfl
theorem wq374 : (.methodLink RX4 165 yX4_sendThroughHose : Cond) ∈ AL := AL_2 134 rfl rfl
theorem wq376 : (.instanceMethod yX4_sendThroughHose : Cond) ∈ AL := AL_2 136 rfl rfl
theorem wq377 : (.code yX4_sendThroughHose cX4_sendThroughHose 4 (none : Option Jvm.ClassFile.FieldType) : Cond) ∈ AL := AL_2 137 rfl rfl
theorem wq379 : (.static yX5_distance : Cond) ∈ AL := AL_2 139 rfl rfl
theorem wq380 : (.code yX5_distance cX5_distance 2 (some .int) : Cond) ∈ AL := AL_2 140 rfl rfl
theorem wq381 : (.methodLink RX5 217 Lib.Math.abs.name : Cond) ∈ AL := AL_2 141 rfl rfl
theorem wq382 : (.static Lib.Math.abs.name : Cond) ∈ AL := AL_2 142 rfl rfl
theorem wq383 : (.code Lib.Math.abs.name cJ9_abs_0f7a4 1 (some .int) : Cond) ∈ AL := AL_2 143 rfl rfl
theorem wq384 : (.methodLink RX4 186 yX4_arriving : Cond) ∈ AL := AL_2 144 rfl rfl
theorem wq385 : (.static yX4_arriving : Cond) ∈ AL := AL_2 145 rfl rfl
theorem wq386 : (.code yX4_arriving cX4_arriving 2 (some .int) : Cond) ∈ AL := AL_2 146 rfl rfl
theorem wq387 : (.methodLink RX4 189 yX4_isHouse : Cond) ∈ AL := AL_2 147 rfl rfl
theorem wq389 : (.instanceMethod yX4_isHouse : Cond) ∈ AL := AL_2 149 rfl rfl
theorem wq390 : (.code yX4_isHouse cX4_isHouse 2 (some .boolean) : Cond) ∈ AL := AL_2 150 rfl rfl
theorem wq391 : (.methodLink RX4 192 yX2_takeWater : Cond) ∈ AL := AL_2 151 rfl rfl
theorem wq392 : (.instanceMethod yX2_takeWater : Cond) ∈ AL := AL_2 152 rfl rfl
theorem wq393 : (.selects RX2 yX2_takeWater yX2_takeWater : Cond) ∈ AL := AL_2 153 rfl rfl
theorem wq394 : (.code yX2_takeWater cX2_takeWater 2 (none : Option Jvm.ClassFile.FieldType) : Cond) ∈ AL := AL_2 154 rfl rfl
theorem wq395 : (.methodLink RX4 168 yX0_spendSteam : Cond) ∈ AL := AL_2 155 rfl rfl
theorem wq396 : (.instanceMethod yX0_spendSteam : Cond) ∈ AL := AL_2 156 rfl rfl
theorem wq397 : (.selects RX0 yX0_spendSteam yX0_spendSteam : Cond) ∈ AL := AL_2 157 rfl rfl
theorem wq398 : (.code yX0_spendSteam cX0_spendSteam 1 (none : Option Jvm.ClassFile.FieldType) : Cond) ∈ AL := AL_2 158 rfl rfl
theorem wq399 : (.methodLink RX4 139 yX2_burnAMinute : Cond) ∈ AL := AL_2 159 rfl rfl
theorem wq400 : (.instanceMethod yX2_burnAMinute : Cond) ∈ AL := AL_2 160 rfl rfl
theorem wq401 : (.selects RX2 yX2_burnAMinute yX2_burnAMinute : Cond) ∈ AL := AL_2 161 rfl rfl
theorem wq402 : (.code yX2_burnAMinute cX2_burnAMinute 1 (none : Option Jvm.ClassFile.FieldType) : Cond) ∈ AL := AL_2 162 rfl rfl
theorem wq403 : (.methodLink RX2 33 Lib.Math.min.name : Cond) ∈ AL := AL_2 163 rfl rfl
theorem wq404 : (.methodLink RX2 39 yX2_endFire : Cond) ∈ AL := AL_2 164 rfl rfl
theorem wq406 : (.instanceMethod yX2_endFire : Cond) ∈ AL := AL_2 166 rfl rfl
theorem wq407 : (.code yX2_endFire cX2_endFire 2 (none : Option Jvm.ClassFile.FieldType) : Cond) ∈ AL := AL_2 167 rfl rfl
theorem wq408 : (.methodLink RX2 43 Lib.Math.max.name : Cond) ∈ AL := AL_2 168 rfl rfl
theorem wq409 : (.methodLink RX4 142 yX4_catchFire : Cond) ∈ AL := AL_2 169 rfl rfl
theorem wq411 : (.instanceMethod yX4_catchFire : Cond) ∈ AL := AL_2 171 rfl rfl
theorem wq412 : (.code yX4_catchFire cX4_catchFire 4 (some .int) : Cond) ∈ AL := AL_2 172 rfl rfl
theorem wq413 : (.methodLink RX4 196 yX4_heatNear : Cond) ∈ AL := AL_2 173 rfl rfl
theorem wq414 : (.instanceMethod yX4_heatNear : Cond) ∈ AL := AL_2 174 rfl rfl
theorem wq415 : (.selects RX4 yX4_heatNear yX4_heatNear : Cond) ∈ AL := AL_2 175 rfl rfl
theorem wq416 : (.code yX4_heatNear cX4_heatNear 5 (some .int) : Cond) ∈ AL := AL_2 176 rfl rfl
theorem wq417 : (.methodLink RL 146 yX5_walls : Cond) ∈ AL := AL_2 177 rfl rfl
theorem wq418 : (.instanceMethod yX5_walls : Cond) ∈ AL := AL_2 178 rfl rfl
theorem wq419 : (.selects RX5 yX5_walls yX5_walls : Cond) ∈ AL := AL_2 179 rfl rfl
theorem wq420 : (.code yX5_walls cX5_walls 4 (some .double) : Cond) ∈ AL := AL_2 180 rfl rfl
theorem wq421 : (.methodLink RX5 46 yJx4a65c_size_8abf5 : Cond) ∈ AL := AL_2 181 rfl rfl
theorem wq422 : (.methodLink RX5 78 yJx4a65c_get_915e3 : Cond) ∈ AL := AL_2 182 rfl rfl
theorem wq423 : (.classLink RX5 56 RX2 : Cond) ∈ AL := AL_2 183 rfl rfl
theorem wq424 : (.methodLink RL 151 yX5_digest : Cond) ∈ AL := AL_2 184 rfl rfl
theorem wq425 : (.instanceMethod yX5_digest : Cond) ∈ AL := AL_2 185 rfl rfl
theorem wq426 : (.selects RX5 yX5_digest yX5_digest : Cond) ∈ AL := AL_2 186 rfl rfl
theorem wq427 : (.code yX5_digest cX5_digest 5 (some .long) : Cond) ∈ AL := AL_2 187 rfl rfl
theorem wq428 : (.constantLong RX5 188 (607) : Cond) ∈ AL := AL_2 188 rfl rfl
theorem wq429 : (.constantLong RX5 190 (31) : Cond) ∈ AL := AL_2 189 rfl rfl
theorem wq430 : (.methodLink RX5 173 yX4_tell : Cond) ∈ AL := AL_2 190 rfl rfl
theorem wq431 : (.instanceMethod yX4_tell : Cond) ∈ AL := AL_2 191 rfl rfl
theorem wq432 : (.selects RX4 yX4_tell yX4_tell : Cond) ∈ AL := AL_2 192 rfl rfl
theorem wq433 : (.code yX4_tell cX4_tell 2 (some .int) : Cond) ∈ AL := AL_2 193 rfl rfl
theorem wq434 : (.methodLink RX4 63 yX4_housesThatAre : Cond) ∈ AL := AL_2 194 rfl rfl
theorem wq435 : (.methodLink RX4 67 yX4_waterOfPonds : Cond) ∈ AL := AL_2 195 rfl rfl
theorem wq437 : (.instanceMethod yX4_waterOfPonds : Cond) ∈ AL := AL_2 197 rfl rfl
theorem wq438 : (.code yX4_waterOfPonds cX4_waterOfPonds 3 (some .int) : Cond) ∈ AL := AL_2 198 rfl rfl
theorem wq439 : (.methodLink RX4 70 yX4_sumOverHouses : Cond) ∈ AL := AL_2 199 rfl rfl
theorem wq441 : (.instanceMethod yX4_sumOverHouses : Cond) ∈ AL := AL_2 201 rfl rfl
theorem wq442 : (.code yX4_sumOverHouses cX4_sumOverHouses 4 (some .int) : Cond) ∈ AL := AL_2 202 rfl rfl
theorem wq443 : (.methodLink RX4 107 yX2_tell : Cond) ∈ AL := AL_2 203 rfl rfl
theorem wq444 : (.instanceMethod yX2_tell : Cond) ∈ AL := AL_2 204 rfl rfl
theorem wq445 : (.selects RX2 yX2_tell yX2_tell : Cond) ∈ AL := AL_2 205 rfl rfl
theorem wq446 : (.code yX2_tell cX2_tell 2 (some .int) : Cond) ∈ AL := AL_2 206 rfl rfl
theorem wq447 : (.methodLink RX5 108 yX2_tell : Cond) ∈ AL := AL_2 207 rfl rfl
theorem wq448 : (.classLink RX5 70 RX3 : Cond) ∈ AL := AL_2 208 rfl rfl
theorem wq449 : (.classLink RX5 117 RX0 : Cond) ∈ AL := AL_2 209 rfl rfl
theorem wq450 : (.methodLink RX5 156 yX4_tellEngine : Cond) ∈ AL := AL_2 210 rfl rfl
theorem wq451 : (.instanceMethod yX4_tellEngine : Cond) ∈ AL := AL_2 211 rfl rfl
theorem wq452 : (.selects RX4 yX4_tellEngine yX4_tellEngine : Cond) ∈ AL := AL_2 212 rfl rfl
theorem wq453 : (.code yX4_tellEngine cX4_tellEngine 3 (some .int) : Cond) ∈ AL := AL_2 213 rfl rfl
theorem wq454 : (.methodLink RL 78 yL_build : Cond) ∈ AL := AL_2 214 rfl rfl
theorem wq455 : (.static yL_build : Cond) ∈ AL := AL_2 215 rfl rfl
theorem wq456 : (.codeWith yL_build cL_build 7 (some .int) [(0, 14, 17, 13), (0, 14, 21, 15), (0, 14, 25, 17)] : Cond) ∈ AL := AL_2 216 rfl rfl
theorem wq457 : (.classLink RL 13 "java/lang/IndexOutOfBoundsException" : Cond) ∈ AL := AL_2 217 rfl rfl
theorem wq458 : (.classLink RL 15 "java/lang/IllegalArgumentException" : Cond) ∈ AL := AL_2 218 rfl rfl
theorem wq459 : (.classLink RL 17 "java/lang/IllegalStateException" : Cond) ∈ AL := AL_2 219 rfl rfl
theorem wq460 : (.methodLink RL 7 yX5_build : Cond) ∈ AL := AL_2 220 rfl rfl
theorem wq461 : (.instanceMethod yX5_build : Cond) ∈ AL := AL_2 221 rfl rfl
theorem wq462 : (.selects RX5 yX5_build yX5_build : Cond) ∈ AL := AL_2 222 rfl rfl
theorem wq463 : (.code yX5_build cX5_build 7 (some .int) : Cond) ∈ AL := AL_2 223 rfl rfl
theorem wq464 : (.methodLink RX5 26 yX5_requireCell : Cond) ∈ AL := AL_2 224 rfl rfl
theorem wq465 : (.static yX5_requireCell : Cond) ∈ AL := AL_2 225 rfl rfl
theorem wq466 : (.code yX5_requireCell cX5_requireCell 2 (none : Option Jvm.ClassFile.FieldType) : Cond) ∈ AL := AL_2 226 rfl rfl
theorem wq467 : (.methodLink RX5 200 yX5_isOnMap : Cond) ∈ AL := AL_2 227 rfl rfl
theorem wq468 : (.static yX5_isOnMap : Cond) ∈ AL := AL_2 228 rfl rfl
theorem wq469 : (.code yX5_isOnMap cX5_isOnMap 2 (some .boolean) : Cond) ∈ AL := AL_2 229 rfl rfl
theorem wq470 : (.classLink RX5 160 "java/lang/IndexOutOfBoundsException" : Cond) ∈ AL := AL_2 230 rfl rfl
theorem wq471 : (.instantiable "java/lang/IndexOutOfBoundsException" 6 : Cond) ∈ AL := AL_2 231 rfl rfl
theorem wq479 : (.selects "java/lang/IndexOutOfBoundsException" ⟨"java/lang/Throwable", "fillInStackTrace", "(I)Ljava/lang/Throwable;"⟩ ⟨"java/lang/Throwable", "fillInStackTrace", "(I)Ljava/lang/Throwable;"⟩ : Cond) ∈ AL := AL_2 239 rfl rfl
theorem wq480 : (.selects "java/lang/IndexOutOfBoundsException" ⟨"java/lang/Throwable", "fillInStackTrace", "()Ljava/lang/Throwable;"⟩ ⟨"java/lang/Throwable", "fillInStackTrace", "()Ljava/lang/Throwable;"⟩ : Cond) ∈ AL := AL_3 0 rfl rfl
theorem wq481 : (.lays "java/lang/IndexOutOfBoundsException" "java/lang/Throwable" "cause" "Ljava/lang/Throwable;" : Cond) ∈ AL := AL_3 1 rfl rfl
theorem wq482 : (.lays "java/lang/Throwable" "java/lang/Throwable" "cause" "Ljava/lang/Throwable;" : Cond) ∈ AL := AL_3 2 rfl rfl
theorem wq483 : (.lays "java/lang/IndexOutOfBoundsException" "java/lang/Throwable" "stackTrace" "[Ljava/lang/StackTraceElement;" : Cond) ∈ AL := AL_3 3 rfl rfl
theorem wq484 : (.lays "java/lang/Throwable" "java/lang/Throwable" "stackTrace" "[Ljava/lang/StackTraceElement;" : Cond) ∈ AL := AL_3 4 rfl rfl
theorem wq485 : (.lays "java/lang/IndexOutOfBoundsException" "java/lang/Throwable" "suppressedExceptions" "Ljava/util/List;" : Cond) ∈ AL := AL_3 5 rfl rfl
theorem wq486 : (.lays "java/lang/Throwable" "java/lang/Throwable" "suppressedExceptions" "Ljava/util/List;" : Cond) ∈ AL := AL_3 6 rfl rfl
theorem wq487 : (.lays "java/lang/IndexOutOfBoundsException" "java/lang/Throwable" "detailMessage" "Ljava/lang/String;" : Cond) ∈ AL := AL_3 7 rfl rfl
theorem wq488 : (.lays "java/lang/Throwable" "java/lang/Throwable" "detailMessage" "Ljava/lang/String;" : Cond) ∈ AL := AL_3 8 rfl rfl
theorem wq489 : (.lays "java/lang/IndexOutOfBoundsException" "java/lang/Throwable" "backtrace" "Ljava/lang/Object;" : Cond) ∈ AL := AL_3 9 rfl rfl
theorem wq490 : (.lays "java/lang/Throwable" "java/lang/Throwable" "backtrace" "Ljava/lang/Object;" : Cond) ∈ AL := AL_3 10 rfl rfl
theorem wq491 : (.fieldLink "java/lang/Throwable" 198 "java/lang/Throwable" "backtrace" "Ljava/lang/Object;" : Cond) ∈ AL := AL_3 11 rfl rfl
theorem wq493 : (.instanceMethod ⟨"java/lang/Throwable", "<init>", "()V"⟩ : Cond) ∈ AL := AL_3 13 rfl rfl
theorem wq494 : (.code ⟨"java/lang/Throwable", "<init>", "()V"⟩ prog_20_method_1_code 1 (none : Option Jvm.ClassFile.FieldType) : Cond) ∈ AL := AL_3 14 rfl rfl
theorem wq495 : (.methodLink "java/lang/Throwable" 1 objectInit : Cond) ∈ AL := AL_3 15 rfl rfl
theorem wq496 : (.fieldLink "java/lang/Throwable" 13 "java/lang/Throwable" "UNASSIGNED_STACK" "[Ljava/lang/StackTraceElement;" : Cond) ∈ AL := AL_3 16 rfl rfl
theorem wt497 : (.laysStatic "java/lang/Throwable" "UNASSIGNED_STACK" "[Ljava/lang/StackTraceElement;" : Cond) ∈ lw_tbl := AT_3 17 rfl
theorem wq498 : (.fieldLink "java/lang/Throwable" 20 "java/lang/Throwable" "SUPPRESSED_SENTINEL" "Ljava/util/List;" : Cond) ∈ AL := AL_3 18 rfl rfl
theorem wt499 : (.laysStatic "java/lang/Throwable" "SUPPRESSED_SENTINEL" "Ljava/util/List;" : Cond) ∈ lw_tbl := AT_3 19 rfl
theorem wq500 : (.methodLink "java/lang/Throwable" 27 ⟨"java/lang/Throwable", "fillInStackTrace", "()Ljava/lang/Throwable;"⟩ : Cond) ∈ AL := AL_3 20 rfl rfl
theorem wq501 : (.instanceMethod ⟨"java/lang/Throwable", "fillInStackTrace", "()Ljava/lang/Throwable;"⟩ : Cond) ∈ AL := AL_3 21 rfl rfl
theorem wq502 : (.sameMethod "java/lang/Throwable" "java/lang/Throwable" "fillInStackTrace" "()Ljava/lang/Throwable;" : Cond) ∈ AL := AL_3 22 rfl rfl
theorem wq503 : (.selects "java/lang/IllegalArgumentException" ⟨"java/lang/Throwable", "fillInStackTrace", "()Ljava/lang/Throwable;"⟩ ⟨"java/lang/Throwable", "fillInStackTrace", "()Ljava/lang/Throwable;"⟩ : Cond) ∈ AL := AL_3 23 rfl rfl
theorem wq504 : (.selects "java/lang/IllegalStateException" ⟨"java/lang/Throwable", "fillInStackTrace", "()Ljava/lang/Throwable;"⟩ ⟨"java/lang/Throwable", "fillInStackTrace", "()Ljava/lang/Throwable;"⟩ : Cond) ∈ AL := AL_3 24 rfl rfl
theorem wq505 : (.codeSync ⟨"java/lang/Throwable", "fillInStackTrace", "()Ljava/lang/Throwable;"⟩ prog_20_method_18_code 1 (some (.object "java/lang/Throwable")) : Cond) ∈ AL := AL_3 25 rfl rfl
theorem wq506 : (.methodLink "java/lang/Throwable" 202 ⟨"java/lang/Throwable", "fillInStackTrace", "(I)Ljava/lang/Throwable;"⟩ : Cond) ∈ AL := AL_3 26 rfl rfl
theorem wq508 : (.instanceMethod ⟨"java/lang/Throwable", "fillInStackTrace", "(I)Ljava/lang/Throwable;"⟩ : Cond) ∈ AL := AL_3 28 rfl rfl
theorem wq509 : (.instantiable "java/lang/Throwable" 6 : Cond) ∈ AL := AL_3 29 rfl rfl
theorem wq510 : (.native ⟨"java/lang/Throwable", "fillInStackTrace", "(I)Ljava/lang/Throwable;"⟩ : Cond) ∈ AL := AL_3 30 rfl rfl
theorem wq512 : (.methodLink RX5 164 ⟨"java/lang/IndexOutOfBoundsException", "<init>", "(Ljava/lang/String;)V"⟩ : Cond) ∈ AL := AL_3 32 rfl rfl
theorem wq513 : (.instanceMethod ⟨"java/lang/IndexOutOfBoundsException", "<init>", "(Ljava/lang/String;)V"⟩ : Cond) ∈ AL := AL_3 33 rfl rfl
theorem wq514 : (.code ⟨"java/lang/IndexOutOfBoundsException", "<init>", "(Ljava/lang/String;)V"⟩ prog_14_method_2_code 2 (none : Option Jvm.ClassFile.FieldType) : Cond) ∈ AL := AL_3 34 rfl rfl
theorem wq515 : (.methodLink "java/lang/IndexOutOfBoundsException" 7 ⟨"java/lang/RuntimeException", "<init>", "(Ljava/lang/String;)V"⟩ : Cond) ∈ AL := AL_3 35 rfl rfl
theorem wq516 : (.instanceMethod ⟨"java/lang/RuntimeException", "<init>", "(Ljava/lang/String;)V"⟩ : Cond) ∈ AL := AL_3 36 rfl rfl
theorem wq517 : (.code ⟨"java/lang/RuntimeException", "<init>", "(Ljava/lang/String;)V"⟩ prog_17_method_2_code 2 (none : Option Jvm.ClassFile.FieldType) : Cond) ∈ AL := AL_3 37 rfl rfl
theorem wq518 : (.methodLink "java/lang/RuntimeException" 7 ⟨"java/lang/Exception", "<init>", "(Ljava/lang/String;)V"⟩ : Cond) ∈ AL := AL_3 38 rfl rfl
theorem wq519 : (.instanceMethod ⟨"java/lang/Exception", "<init>", "(Ljava/lang/String;)V"⟩ : Cond) ∈ AL := AL_3 39 rfl rfl
theorem wq520 : (.code ⟨"java/lang/Exception", "<init>", "(Ljava/lang/String;)V"⟩ prog_11_method_2_code 2 (none : Option Jvm.ClassFile.FieldType) : Cond) ∈ AL := AL_3 40 rfl rfl
theorem wq521 : (.methodLink "java/lang/Exception" 7 ⟨"java/lang/Throwable", "<init>", "(Ljava/lang/String;)V"⟩ : Cond) ∈ AL := AL_3 41 rfl rfl
theorem wq522 : (.instanceMethod ⟨"java/lang/Throwable", "<init>", "(Ljava/lang/String;)V"⟩ : Cond) ∈ AL := AL_3 42 rfl rfl
theorem wq523 : (.code ⟨"java/lang/Throwable", "<init>", "(Ljava/lang/String;)V"⟩ prog_20_method_2_code 2 (none : Option Jvm.ClassFile.FieldType) : Cond) ∈ AL := AL_3 43 rfl rfl
theorem wq524 : (.fieldLink "java/lang/Throwable" 198 "java/lang/Throwable" "backtrace" "Ljava/lang/Object;" : Cond) ∈ AL := AL_3 44 rfl rfl
theorem wq525 : (.fieldLink "java/lang/Throwable" 31 "java/lang/Throwable" "detailMessage" "Ljava/lang/String;" : Cond) ∈ AL := AL_3 45 rfl rfl
theorem wq526 : (.fieldLink "java/lang/Throwable" 7 "java/lang/Throwable" "cause" "Ljava/lang/Throwable;" : Cond) ∈ AL := AL_3 46 rfl rfl
theorem wq527 : (.fieldLink "java/lang/Throwable" 17 "java/lang/Throwable" "stackTrace" "[Ljava/lang/StackTraceElement;" : Cond) ∈ AL := AL_3 47 rfl rfl
theorem wq528 : (.fieldLink "java/lang/Throwable" 24 "java/lang/Throwable" "suppressedExceptions" "Ljava/util/List;" : Cond) ∈ AL := AL_3 48 rfl rfl
theorem wq533 : (.lays "java/lang/IndexOutOfBoundsException" "java/lang/Throwable" "depth" "I" : Cond) ∈ AL := AL_3 53 rfl rfl
theorem wq537 : (.arrayClass .byte : Cond) ∈ AL := AL_3 57 rfl rfl
theorem wq538 : (.methodLink RX5 30 yX5_requireRange : Cond) ∈ AL := AL_3 58 rfl rfl
theorem wq539 : (.static yX5_requireRange : Cond) ∈ AL := AL_3 59 rfl rfl
theorem wq540 : (.code yX5_requireRange cX5_requireRange 3 (none : Option Jvm.ClassFile.FieldType) : Cond) ∈ AL := AL_3 60 rfl rfl
theorem wq541 : (.classLink RX5 207 "java/lang/IllegalArgumentException" : Cond) ∈ AL := AL_3 61 rfl rfl
theorem wq542 : (.instantiable "java/lang/IllegalArgumentException" 6 : Cond) ∈ AL := AL_3 62 rfl rfl
theorem wq544 : (.selects "java/lang/IllegalArgumentException" ⟨"java/lang/Throwable", "fillInStackTrace", "(I)Ljava/lang/Throwable;"⟩ ⟨"java/lang/Throwable", "fillInStackTrace", "(I)Ljava/lang/Throwable;"⟩ : Cond) ∈ AL := AL_3 64 rfl rfl
theorem wq545 : (.lays "java/lang/IllegalArgumentException" "java/lang/Throwable" "cause" "Ljava/lang/Throwable;" : Cond) ∈ AL := AL_3 65 rfl rfl
theorem wq546 : (.lays "java/lang/IllegalArgumentException" "java/lang/Throwable" "stackTrace" "[Ljava/lang/StackTraceElement;" : Cond) ∈ AL := AL_3 66 rfl rfl
theorem wq547 : (.lays "java/lang/IllegalArgumentException" "java/lang/Throwable" "suppressedExceptions" "Ljava/util/List;" : Cond) ∈ AL := AL_3 67 rfl rfl
theorem wq548 : (.lays "java/lang/IllegalArgumentException" "java/lang/Throwable" "detailMessage" "Ljava/lang/String;" : Cond) ∈ AL := AL_3 68 rfl rfl
theorem wq549 : (.lays "java/lang/IllegalArgumentException" "java/lang/Throwable" "backtrace" "Ljava/lang/Object;" : Cond) ∈ AL := AL_3 69 rfl rfl
theorem wq551 : (.methodLink RX5 211 ⟨"java/lang/IllegalArgumentException", "<init>", "(Ljava/lang/String;)V"⟩ : Cond) ∈ AL := AL_3 71 rfl rfl
theorem wq552 : (.instanceMethod ⟨"java/lang/IllegalArgumentException", "<init>", "(Ljava/lang/String;)V"⟩ : Cond) ∈ AL := AL_3 72 rfl rfl
theorem wq553 : (.code ⟨"java/lang/IllegalArgumentException", "<init>", "(Ljava/lang/String;)V"⟩ prog_12_method_2_code 2 (none : Option Jvm.ClassFile.FieldType) : Cond) ∈ AL := AL_3 73 rfl rfl
theorem wq554 : (.methodLink "java/lang/IllegalArgumentException" 7 ⟨"java/lang/RuntimeException", "<init>", "(Ljava/lang/String;)V"⟩ : Cond) ∈ AL := AL_3 74 rfl rfl
theorem wq555 : (.lays "java/lang/IllegalArgumentException" "java/lang/Throwable" "depth" "I" : Cond) ∈ AL := AL_3 75 rfl rfl
theorem wq557 : (.methodLink RX5 34 yX5_cellAt : Cond) ∈ AL := AL_3 77 rfl rfl
theorem wq558 : (.static yX5_cellAt : Cond) ∈ AL := AL_3 78 rfl rfl
theorem wq559 : (.code yX5_cellAt cX5_cellAt 2 (some .int) : Cond) ∈ AL := AL_3 79 rfl rfl
theorem wq560 : (.methodLink RX5 38 yX5_isFree : Cond) ∈ AL := AL_3 80 rfl rfl
theorem wq562 : (.instanceMethod yX5_isFree : Cond) ∈ AL := AL_3 82 rfl rfl
theorem wq563 : (.code yX5_isFree cX5_isFree 2 (some .boolean) : Cond) ∈ AL := AL_3 83 rfl rfl
theorem wq564 : (.methodLink RX5 111 yX1_isStreet : Cond) ∈ AL := AL_3 84 rfl rfl
theorem wq565 : (.instanceMethod yX1_isStreet : Cond) ∈ AL := AL_3 85 rfl rfl
theorem wq566 : (.selects RX1 yX1_isStreet yX1_isStreet : Cond) ∈ AL := AL_3 86 rfl rfl
theorem wq567 : (.code yX1_isStreet cX1_isStreet 2 (some .boolean) : Cond) ∈ AL := AL_3 87 rfl rfl
theorem wq568 : (.methodLink RX1 25 yX1_kindOf : Cond) ∈ AL := AL_3 88 rfl rfl
theorem wq569 : (.instanceMethod yX1_kindOf : Cond) ∈ AL := AL_3 89 rfl rfl
theorem wq570 : (.selects RX1 yX1_kindOf yX1_kindOf : Cond) ∈ AL := AL_3 90 rfl rfl
theorem wq571 : (.code yX1_kindOf cX1_kindOf 2 (some .int) : Cond) ∈ AL := AL_3 91 rfl rfl
theorem wq572 : (.methodLink RX5 102 yX4_enginesOn : Cond) ∈ AL := AL_3 92 rfl rfl
theorem wq573 : (.instanceMethod yX4_enginesOn : Cond) ∈ AL := AL_3 93 rfl rfl
theorem wq574 : (.selects RX4 yX4_enginesOn yX4_enginesOn : Cond) ∈ AL := AL_3 94 rfl rfl
theorem wq575 : (.code yX4_enginesOn cX4_enginesOn 4 (some .int) : Cond) ∈ AL := AL_3 95 rfl rfl
theorem wq576 : (.methodLink RX5 193 yX4_isGoal : Cond) ∈ AL := AL_3 96 rfl rfl
theorem wq577 : (.instanceMethod yX4_isGoal : Cond) ∈ AL := AL_3 97 rfl rfl
theorem wq578 : (.selects RX4 yX4_isGoal yX4_isGoal : Cond) ∈ AL := AL_3 98 rfl rfl
theorem wq579 : (.code yX4_isGoal cX4_isGoal 3 (some .boolean) : Cond) ∈ AL := AL_3 99 rfl rfl
theorem wq580 : (.methodLink RX5 52 yX5_requireState : Cond) ∈ AL := AL_3 100 rfl rfl
theorem wq581 : (.static yX5_requireState : Cond) ∈ AL := AL_3 101 rfl rfl
theorem wq582 : (.code yX5_requireState cX5_requireState 1 (none : Option Jvm.ClassFile.FieldType) : Cond) ∈ AL := AL_3 102 rfl rfl
theorem wq583 : (.classLink RX5 212 "java/lang/IllegalStateException" : Cond) ∈ AL := AL_3 103 rfl rfl
theorem wq584 : (.instantiable "java/lang/IllegalStateException" 6 : Cond) ∈ AL := AL_3 104 rfl rfl
theorem wq586 : (.selects "java/lang/IllegalStateException" ⟨"java/lang/Throwable", "fillInStackTrace", "(I)Ljava/lang/Throwable;"⟩ ⟨"java/lang/Throwable", "fillInStackTrace", "(I)Ljava/lang/Throwable;"⟩ : Cond) ∈ AL := AL_3 106 rfl rfl
theorem wq587 : (.lays "java/lang/IllegalStateException" "java/lang/Throwable" "cause" "Ljava/lang/Throwable;" : Cond) ∈ AL := AL_3 107 rfl rfl
theorem wq588 : (.lays "java/lang/IllegalStateException" "java/lang/Throwable" "stackTrace" "[Ljava/lang/StackTraceElement;" : Cond) ∈ AL := AL_3 108 rfl rfl
theorem wq589 : (.lays "java/lang/IllegalStateException" "java/lang/Throwable" "suppressedExceptions" "Ljava/util/List;" : Cond) ∈ AL := AL_3 109 rfl rfl
theorem wq590 : (.lays "java/lang/IllegalStateException" "java/lang/Throwable" "detailMessage" "Ljava/lang/String;" : Cond) ∈ AL := AL_3 110 rfl rfl
theorem wq591 : (.lays "java/lang/IllegalStateException" "java/lang/Throwable" "backtrace" "Ljava/lang/Object;" : Cond) ∈ AL := AL_3 111 rfl rfl
theorem wq593 : (.methodLink RX5 216 ⟨"java/lang/IllegalStateException", "<init>", "(Ljava/lang/String;)V"⟩ : Cond) ∈ AL := AL_3 113 rfl rfl
theorem wq594 : (.instanceMethod ⟨"java/lang/IllegalStateException", "<init>", "(Ljava/lang/String;)V"⟩ : Cond) ∈ AL := AL_3 114 rfl rfl
theorem wq595 : (.code ⟨"java/lang/IllegalStateException", "<init>", "(Ljava/lang/String;)V"⟩ prog_13_method_2_code 2 (none : Option Jvm.ClassFile.FieldType) : Cond) ∈ AL := AL_3 115 rfl rfl
theorem wq596 : (.methodLink "java/lang/IllegalStateException" 7 ⟨"java/lang/RuntimeException", "<init>", "(Ljava/lang/String;)V"⟩ : Cond) ∈ AL := AL_3 116 rfl rfl
theorem wq597 : (.lays "java/lang/IllegalStateException" "java/lang/Throwable" "depth" "I" : Cond) ∈ AL := AL_3 117 rfl rfl
theorem wq599 : (.methodLink RX5 58 yX2_init : Cond) ∈ AL := AL_3 119 rfl rfl
theorem wq600 : (.methodLink RX5 60 yJx4a65c_add_9ea2d : Cond) ∈ AL := AL_3 120 rfl rfl
theorem wq601 : (.methodLink RX5 64 yX1_put : Cond) ∈ AL := AL_3 121 rfl rfl
theorem wq602 : (.instanceMethod yX1_put : Cond) ∈ AL := AL_3 122 rfl rfl
theorem wq603 : (.selects RX1 yX1_put yX1_put : Cond) ∈ AL := AL_3 123 rfl rfl
theorem wq604 : (.code yX1_put cX1_put 4 (none : Option Jvm.ClassFile.FieldType) : Cond) ∈ AL := AL_3 124 rfl rfl
theorem wq605 : (.methodLink RX1 21 yX1_isStreet : Cond) ∈ AL := AL_3 125 rfl rfl
theorem wq606 : (.methodLink RL 88 yL_dig : Cond) ∈ AL := AL_3 126 rfl rfl
theorem wq607 : (.static yL_dig : Cond) ∈ AL := AL_3 127 rfl rfl
theorem wq608 : (.codeWith yL_dig cL_dig 6 (some .int) [(0, 12, 15, 13), (0, 12, 19, 15), (0, 12, 23, 17)] : Cond) ∈ AL := AL_3 128 rfl rfl
theorem wq609 : (.methodLink RL 19 yX5_dig : Cond) ∈ AL := AL_3 129 rfl rfl
theorem wq610 : (.instanceMethod yX5_dig : Cond) ∈ AL := AL_3 130 rfl rfl
theorem wq611 : (.selects RX5 yX5_dig yX5_dig : Cond) ∈ AL := AL_3 131 rfl rfl
theorem wq612 : (.code yX5_dig cX5_dig 6 (some .int) : Cond) ∈ AL := AL_3 132 rfl rfl
theorem wq613 : (.methodLink RX5 72 yX3_init : Cond) ∈ AL := AL_3 133 rfl rfl
theorem wq614 : (.methodLink RL 92 yL_light : Cond) ∈ AL := AL_3 134 rfl rfl
theorem wq615 : (.static yL_light : Cond) ∈ AL := AL_3 135 rfl rfl
theorem wq616 : (.codeWith yL_light cL_light 5 (some .int) [(0, 10, 13, 13), (0, 10, 17, 15), (0, 10, 21, 17)] : Cond) ∈ AL := AL_3 136 rfl rfl
theorem wq617 : (.methodLink RL 23 yX5_light : Cond) ∈ AL := AL_3 137 rfl rfl
theorem wq618 : (.instanceMethod yX5_light : Cond) ∈ AL := AL_3 138 rfl rfl
theorem wq619 : (.selects RX5 yX5_light yX5_light : Cond) ∈ AL := AL_3 139 rfl rfl
theorem wq620 : (.code yX5_light cX5_light 4 (some .int) : Cond) ∈ AL := AL_3 140 rfl rfl
theorem wq621 : (.methodLink RX5 74 yX5_requireHouse : Cond) ∈ AL := AL_3 141 rfl rfl
theorem wq623 : (.instanceMethod yX5_requireHouse : Cond) ∈ AL := AL_3 143 rfl rfl
theorem wq624 : (.code yX5_requireHouse cX5_requireHouse 2 (none : Option Jvm.ClassFile.FieldType) : Cond) ∈ AL := AL_3 144 rfl rfl
theorem wq626 : (.methodLink RX5 86 yX2_catchFire : Cond) ∈ AL := AL_3 146 rfl rfl
theorem wq627 : (.instanceMethod yX2_catchFire : Cond) ∈ AL := AL_3 147 rfl rfl
theorem wq628 : (.selects RX2 yX2_catchFire yX2_catchFire : Cond) ∈ AL := AL_3 148 rfl rfl
theorem wq629 : (.code yX2_catchFire cX2_catchFire 2 (none : Option Jvm.ClassFile.FieldType) : Cond) ∈ AL := AL_3 149 rfl rfl
theorem wq630 : (.methodLink RL 96 yL_cell : Cond) ∈ AL := AL_3 150 rfl rfl
theorem wq631 : (.static yL_cell : Cond) ∈ AL := AL_3 151 rfl rfl
theorem wq632 : (.codeWith yL_cell cL_cell 6 (some .int) [(0, 12, 15, 13)] : Cond) ∈ AL := AL_3 152 rfl rfl
theorem wq633 : (.methodLink RL 27 yX5_cell : Cond) ∈ AL := AL_3 153 rfl rfl
theorem wq634 : (.instanceMethod yX5_cell : Cond) ∈ AL := AL_3 154 rfl rfl
theorem wq635 : (.selects RX5 yX5_cell yX5_cell : Cond) ∈ AL := AL_3 155 rfl rfl
theorem wq636 : (.code yX5_cell cX5_cell 5 (some .int) : Cond) ∈ AL := AL_3 156 rfl rfl
theorem wq637 : (.methodLink RX5 93 yX5_requireQuestion : Cond) ∈ AL := AL_3 157 rfl rfl
theorem wq638 : (.static yX5_requireQuestion : Cond) ∈ AL := AL_3 158 rfl rfl
theorem wq639 : (.code yX5_requireQuestion cX5_requireQuestion 2 (none : Option Jvm.ClassFile.FieldType) : Cond) ∈ AL := AL_3 159 rfl rfl
theorem wq641 : (.methodLink RX5 96 yX1_kindOf : Cond) ∈ AL := AL_3 161 rfl rfl
theorem wq642 : (.methodLink RX5 99 yX1_numberOf : Cond) ∈ AL := AL_3 162 rfl rfl
theorem wq643 : (.instanceMethod yX1_numberOf : Cond) ∈ AL := AL_3 163 rfl rfl
theorem wq644 : (.selects RX1 yX1_numberOf yX1_numberOf : Cond) ∈ AL := AL_3 164 rfl rfl
theorem wq645 : (.code yX1_numberOf cX1_numberOf 2 (some .int) : Cond) ∈ AL := AL_3 165 rfl rfl
theorem wq646 : (.methodLink RX5 105 yX4_heatNear : Cond) ∈ AL := AL_3 166 rfl rfl
theorem wq647 : (.methodLink RL 99 yL_house : Cond) ∈ AL := AL_3 167 rfl rfl
theorem wq648 : (.static yL_house : Cond) ∈ AL := AL_3 168 rfl rfl
theorem wq649 : (.codeWith yL_house cL_house 5 (some .int) [(0, 10, 13, 13)] : Cond) ∈ AL := AL_3 169 rfl rfl
theorem wq650 : (.methodLink RL 30 yX5_house : Cond) ∈ AL := AL_3 170 rfl rfl
theorem wq651 : (.instanceMethod yX5_house : Cond) ∈ AL := AL_3 171 rfl rfl
theorem wq652 : (.selects RX5 yX5_house yX5_house : Cond) ∈ AL := AL_3 172 rfl rfl
theorem wq653 : (.code yX5_house cX5_house 3 (some .int) : Cond) ∈ AL := AL_3 173 rfl rfl
theorem wq654 : (.methodLink RL 102 yL_addEngine : Cond) ∈ AL := AL_3 174 rfl rfl
theorem wq655 : (.static yL_addEngine : Cond) ∈ AL := AL_3 175 rfl rfl
theorem wq656 : (.codeWith yL_addEngine cL_addEngine 7 (some .int) [(0, 14, 17, 13), (0, 14, 21, 15), (0, 14, 25, 17)] : Cond) ∈ AL := AL_3 176 rfl rfl
theorem wq657 : (.methodLink RL 33 yX5_addEngine : Cond) ∈ AL := AL_3 177 rfl rfl
theorem wq658 : (.instanceMethod yX5_addEngine : Cond) ∈ AL := AL_3 178 rfl rfl
theorem wq659 : (.selects RX5 yX5_addEngine yX5_addEngine : Cond) ∈ AL := AL_3 179 rfl rfl
theorem wq660 : (.code yX5_addEngine cX5_addEngine 7 (some .int) : Cond) ∈ AL := AL_3 180 rfl rfl
theorem wq661 : (.methodLink RX5 119 yX0_init : Cond) ∈ AL := AL_3 181 rfl rfl
theorem wq662 : (.methodLink RL 105 yL_stoke : Cond) ∈ AL := AL_3 182 rfl rfl
theorem wq663 : (.static yL_stoke : Cond) ∈ AL := AL_3 183 rfl rfl
theorem wq664 : (.codeWith yL_stoke cL_stoke 5 (some .int) [(0, 10, 13, 13), (0, 10, 17, 15), (0, 10, 21, 17)] : Cond) ∈ AL := AL_3 184 rfl rfl
theorem wq665 : (.methodLink RL 36 yX5_stoke : Cond) ∈ AL := AL_3 185 rfl rfl
theorem wq666 : (.instanceMethod yX5_stoke : Cond) ∈ AL := AL_3 186 rfl rfl
theorem wq667 : (.selects RX5 yX5_stoke yX5_stoke : Cond) ∈ AL := AL_3 187 rfl rfl
theorem wq668 : (.code yX5_stoke cX5_stoke 4 (some .int) : Cond) ∈ AL := AL_3 188 rfl rfl
theorem wq669 : (.methodLink RX5 120 yX5_requireEngine : Cond) ∈ AL := AL_3 189 rfl rfl
theorem wq671 : (.instanceMethod yX5_requireEngine : Cond) ∈ AL := AL_3 191 rfl rfl
theorem wq672 : (.code yX5_requireEngine cX5_requireEngine 2 (none : Option Jvm.ClassFile.FieldType) : Cond) ∈ AL := AL_3 192 rfl rfl
theorem wq674 : (.methodLink RL 108 yL_drive : Cond) ∈ AL := AL_3 194 rfl rfl
theorem wq675 : (.static yL_drive : Cond) ∈ AL := AL_3 195 rfl rfl
theorem wq676 : (.codeWith yL_drive cL_drive 6 (some .int) [(0, 12, 15, 13), (0, 12, 19, 17)] : Cond) ∈ AL := AL_3 196 rfl rfl
theorem wq677 : (.methodLink RL 39 yX5_drive : Cond) ∈ AL := AL_3 197 rfl rfl
theorem wq678 : (.instanceMethod yX5_drive : Cond) ∈ AL := AL_3 198 rfl rfl
theorem wq679 : (.selects RX5 yX5_drive yX5_drive : Cond) ∈ AL := AL_3 199 rfl rfl
theorem wq680 : (.code yX5_drive cX5_drive 7 (some .int) : Cond) ∈ AL := AL_3 200 rfl rfl
theorem wq681 : (.methodLink RX5 126 yX0_stands : Cond) ∈ AL := AL_3 201 rfl rfl
theorem wq682 : (.methodLink RX5 133 yX1_stepsBetween : Cond) ∈ AL := AL_3 202 rfl rfl
theorem wq683 : (.instanceMethod yX1_stepsBetween : Cond) ∈ AL := AL_3 203 rfl rfl
theorem wq684 : (.selects RX1 yX1_stepsBetween yX1_stepsBetween : Cond) ∈ AL := AL_3 204 rfl rfl
theorem wq685 : (.code yX1_stepsBetween cX1_stepsBetween 5 (some .int) : Cond) ∈ AL := AL_3 205 rfl rfl
theorem wq686 : (.methodLink RX1 29 yJ7_fill_53178 : Cond) ∈ AL := AL_3 206 rfl rfl
theorem wq687 : (.static yJ7_fill_53178 : Cond) ∈ AL := AL_3 207 rfl rfl
theorem wq688 : (.code yJ7_fill_53178 cJ7_fill_53178 4 (none : Option Jvm.ClassFile.FieldType) : Cond) ∈ AL := AL_3 208 rfl rfl
theorem wq689 : (.methodLink RX1 35 yX1_spread : Cond) ∈ AL := AL_3 209 rfl rfl
theorem wq691 : (.instanceMethod yX1_spread : Cond) ∈ AL := AL_3 211 rfl rfl
theorem wq692 : (.code yX1_spread cX1_spread 6 (some .int) : Cond) ∈ AL := AL_3 212 rfl rfl
theorem wq693 : (.methodLink RX1 38 yX1_enter : Cond) ∈ AL := AL_3 213 rfl rfl
theorem wq695 : (.instanceMethod yX1_enter : Cond) ∈ AL := AL_3 215 rfl rfl
theorem wq696 : (.code yX1_enter cX1_enter 5 (some .int) : Cond) ∈ AL := AL_3 216 rfl rfl
theorem wq699 : (.methodLink RX5 136 yX4_takeUpHosesOfAndTo : Cond) ∈ AL := AL_3 219 rfl rfl
theorem wq700 : (.instanceMethod yX4_takeUpHosesOfAndTo : Cond) ∈ AL := AL_3 220 rfl rfl
theorem wq701 : (.selects RX4 yX4_takeUpHosesOfAndTo yX4_takeUpHosesOfAndTo : Cond) ∈ AL := AL_3 221 rfl rfl
theorem wq702 : (.code yX4_takeUpHosesOfAndTo cX4_takeUpHosesOfAndTo 4 (none : Option Jvm.ClassFile.FieldType) : Cond) ∈ AL := AL_3 222 rfl rfl
theorem wq703 : (.methodLink RX5 139 yX0_setOut : Cond) ∈ AL := AL_3 223 rfl rfl
theorem wq704 : (.instanceMethod yX0_setOut : Cond) ∈ AL := AL_3 224 rfl rfl
theorem wq705 : (.selects RX0 yX0_setOut yX0_setOut : Cond) ∈ AL := AL_3 225 rfl rfl
theorem wq706 : (.code yX0_setOut cX0_setOut 3 (none : Option Jvm.ClassFile.FieldType) : Cond) ∈ AL := AL_3 226 rfl rfl
theorem wq707 : (.methodLink RL 111 yL_relay : Cond) ∈ AL := AL_3 227 rfl rfl
theorem wq708 : (.static yL_relay : Cond) ∈ AL := AL_3 228 rfl rfl
theorem wq709 : (.codeWith yL_relay cL_relay 5 (some .int) [(0, 10, 13, 13), (0, 10, 17, 17)] : Cond) ∈ AL := AL_3 229 rfl rfl
theorem wq710 : (.methodLink RL 42 yX5_relay : Cond) ∈ AL := AL_3 230 rfl rfl
theorem wq711 : (.instanceMethod yX5_relay : Cond) ∈ AL := AL_3 231 rfl rfl
theorem wq712 : (.selects RX5 yX5_relay yX5_relay : Cond) ∈ AL := AL_3 232 rfl rfl
theorem wq713 : (.code yX5_relay cX5_relay 6 (some .int) : Cond) ∈ AL := AL_3 233 rfl rfl
theorem wq714 : (.methodLink RX5 145 yX5_distance : Cond) ∈ AL := AL_3 234 rfl rfl
theorem wq715 : (.methodLink RX5 148 yX4_hosesLead : Cond) ∈ AL := AL_3 235 rfl rfl
theorem wq716 : (.instanceMethod yX4_hosesLead : Cond) ∈ AL := AL_3 236 rfl rfl
theorem wq717 : (.selects RX4 yX4_hosesLead yX4_hosesLead : Cond) ∈ AL := AL_3 237 rfl rfl
theorem wq718 : (.code yX4_hosesLead cX4_hosesLead 5 (some .boolean) : Cond) ∈ AL := AL_3 238 rfl rfl
theorem wq719 : (.methodLink RL 114 yL_aim : Cond) ∈ AL := AL_3 239 rfl rfl
theorem wq720 : (.static yL_aim : Cond) ∈ AL := AL_4 0 rfl rfl
theorem wq721 : (.codeWith yL_aim cL_aim 5 (some .int) [(0, 10, 13, 13), (0, 10, 17, 17)] : Cond) ∈ AL := AL_4 1 rfl rfl
theorem wq722 : (.methodLink RL 45 yX5_aim : Cond) ∈ AL := AL_4 2 rfl rfl
theorem wq723 : (.instanceMethod yX5_aim : Cond) ∈ AL := AL_4 3 rfl rfl
theorem wq724 : (.selects RX5 yX5_aim yX5_aim : Cond) ∈ AL := AL_4 4 rfl rfl
theorem wq725 : (.code yX5_aim cX5_aim 5 (some .int) : Cond) ∈ AL := AL_4 5 rfl rfl
theorem wq726 : (.methodLink RL 117 yL_takeUp : Cond) ∈ AL := AL_4 6 rfl rfl
theorem wq727 : (.static yL_takeUp : Cond) ∈ AL := AL_4 7 rfl rfl
theorem wq728 : (.codeWith yL_takeUp cL_takeUp 4 (some .int) [(0, 16, 19, 13)] : Cond) ∈ AL := AL_4 8 rfl rfl
theorem wq729 : (.methodLink RL 48 yX5_takeUp : Cond) ∈ AL := AL_4 9 rfl rfl
theorem wq730 : (.instanceMethod yX5_takeUp : Cond) ∈ AL := AL_4 10 rfl rfl
theorem wq731 : (.selects RX5 yX5_takeUp yX5_takeUp : Cond) ∈ AL := AL_4 11 rfl rfl
theorem wq732 : (.code yX5_takeUp cX5_takeUp 4 (some .boolean) : Cond) ∈ AL := AL_4 12 rfl rfl
theorem wq733 : (.methodLink RL 121 yL_engine : Cond) ∈ AL := AL_4 13 rfl rfl
theorem wq734 : (.static yL_engine : Cond) ∈ AL := AL_4 14 rfl rfl
theorem wq735 : (.codeWith yL_engine cL_engine 5 (some .int) [(0, 10, 13, 13)] : Cond) ∈ AL := AL_4 15 rfl rfl
theorem wq736 : (.methodLink RL 52 yX5_engine : Cond) ∈ AL := AL_4 16 rfl rfl
theorem wq737 : (.instanceMethod yX5_engine : Cond) ∈ AL := AL_4 17 rfl rfl
theorem wq738 : (.selects RX5 yX5_engine yX5_engine : Cond) ∈ AL := AL_4 18 rfl rfl
theorem wq739 : (.code yX5_engine cX5_engine 3 (some .int) : Cond) ∈ AL := AL_4 19 rfl rfl
theorem wq740 : (.methodLink RL 124 yL_pond : Cond) ∈ AL := AL_4 20 rfl rfl
theorem wq741 : (.static yL_pond : Cond) ∈ AL := AL_4 21 rfl rfl
theorem wq742 : (.codeWith yL_pond cL_pond 4 (some .int) [(0, 9, 12, 13)] : Cond) ∈ AL := AL_4 22 rfl rfl
theorem wq743 : (.methodLink RL 55 yX5_pond : Cond) ∈ AL := AL_4 23 rfl rfl
theorem wq744 : (.instanceMethod yX5_pond : Cond) ∈ AL := AL_4 24 rfl rfl
theorem wq745 : (.selects RX5 yX5_pond yX5_pond : Cond) ∈ AL := AL_4 25 rfl rfl
theorem wq746 : (.code yX5_pond cX5_pond 2 (some .int) : Cond) ∈ AL := AL_4 26 rfl rfl
theorem wq748 : (.methodLink RL 127 yL_pass : Cond) ∈ AL := AL_4 28 rfl rfl
theorem wq749 : (.static yL_pass : Cond) ∈ AL := AL_4 29 rfl rfl
theorem wq750 : (.codeWith yL_pass cL_pass 4 (some .int) [(0, 9, 12, 15)] : Cond) ∈ AL := AL_4 30 rfl rfl
theorem wq751 : (.methodLink RL 59 yX5_pass : Cond) ∈ AL := AL_4 31 rfl rfl
theorem wq752 : (.instanceMethod yX5_pass : Cond) ∈ AL := AL_4 32 rfl rfl
theorem wq753 : (.selects RX5 yX5_pass yX5_pass : Cond) ∈ AL := AL_4 33 rfl rfl
theorem wq754 : (.code yX5_pass cX5_pass 2 (some .int) : Cond) ∈ AL := AL_4 34 rfl rfl
theorem wq755 : (.methodLink RL 130 yL_count : Cond) ∈ AL := AL_4 35 rfl rfl
theorem wq756 : (.static yL_count : Cond) ∈ AL := AL_4 36 rfl rfl
theorem wq757 : (.codeWith yL_count cL_count 4 (some .int) [(0, 9, 12, 13)] : Cond) ∈ AL := AL_4 37 rfl rfl
theorem wq758 : (.methodLink RL 62 yX5_count : Cond) ∈ AL := AL_4 38 rfl rfl
theorem wq759 : (.instanceMethod yX5_count : Cond) ∈ AL := AL_4 39 rfl rfl
theorem wq760 : (.selects RX5 yX5_count yX5_count : Cond) ∈ AL := AL_4 40 rfl rfl
theorem wq761 : (.code yX5_count cX5_count 2 (some .int) : Cond) ∈ AL := AL_4 41 rfl rfl
theorem wq762 : (.methodLink RL 133 yL_foresee : Cond) ∈ AL := AL_4 42 rfl rfl
theorem wq763 : (.static yL_foresee : Cond) ∈ AL := AL_4 43 rfl rfl
theorem wq764 : (.codeWith yL_foresee cL_foresee 5 (some .int) [(0, 10, 13, 15), (0, 10, 17, 13)] : Cond) ∈ AL := AL_4 44 rfl rfl
theorem wq765 : (.methodLink RL 65 yX5_foresee : Cond) ∈ AL := AL_4 45 rfl rfl
theorem wq766 : (.instanceMethod yX5_foresee : Cond) ∈ AL := AL_4 46 rfl rfl
theorem wq767 : (.selects RX5 yX5_foresee yX5_foresee : Cond) ∈ AL := AL_4 47 rfl rfl
theorem wq768 : (.code yX5_foresee cX5_foresee 3 (some .int) : Cond) ∈ AL := AL_4 48 rfl rfl
theorem wq769 : (.methodLink RL 140 yL_weakest : Cond) ∈ AL := AL_4 49 rfl rfl
theorem wq770 : (.static yL_weakest : Cond) ∈ AL := AL_4 50 rfl rfl
theorem wq771 : (.codeWith yL_weakest cL_weakest 4 (some .int) [(0, 9, 12, 13)] : Cond) ∈ AL := AL_4 51 rfl rfl
theorem wq772 : (.methodLink RL 68 yX5_weakest : Cond) ∈ AL := AL_4 52 rfl rfl
theorem wq773 : (.instanceMethod yX5_weakest : Cond) ∈ AL := AL_4 53 rfl rfl
theorem wq774 : (.selects RX5 yX5_weakest yX5_weakest : Cond) ∈ AL := AL_4 54 rfl rfl
theorem wq775 : (.code yX5_weakest cX5_weakest 7 (some .int) : Cond) ∈ AL := AL_4 55 rfl rfl
theorem wq776 : (.methodLink RX5 178 yX0_canPump : Cond) ∈ AL := AL_4 56 rfl rfl
theorem wq777 : (.methodLink RL 143 yL_advise : Cond) ∈ AL := AL_4 57 rfl rfl
theorem wq778 : (.static yL_advise : Cond) ∈ AL := AL_4 58 rfl rfl
theorem wq779 : (.codeWith yL_advise cL_advise 5 (some .int) [(0, 10, 13, 13), (0, 10, 17, 15)] : Cond) ∈ AL := AL_4 59 rfl rfl
theorem wq780 : (.methodLink RL 71 yX5_advise : Cond) ∈ AL := AL_4 60 rfl rfl
theorem wq781 : (.instanceMethod yX5_advise : Cond) ∈ AL := AL_4 61 rfl rfl
theorem wq782 : (.selects RX5 yX5_advise yX5_advise : Cond) ∈ AL := AL_4 62 rfl rfl
theorem wq783 : (.code yX5_advise cX5_advise 10 (some .int) : Cond) ∈ AL := AL_4 63 rfl rfl
theorem wq784 : (.methodLink RX5 181 yX5_fallenIfAimed : Cond) ∈ AL := AL_4 64 rfl rfl
theorem wq786 : (.instanceMethod yX5_fallenIfAimed : Cond) ∈ AL := AL_4 66 rfl rfl
theorem wq787 : (.code yX5_fallenIfAimed cX5_fallenIfAimed 4 (some .int) : Cond) ∈ AL := AL_4 67 rfl rfl
theorem wq788 : (.classLink RL 75 RX6 : Cond) ∈ AL := AL_4 68 rfl rfl
theorem wq789 : (.instantiable RX6 13 : Cond) ∈ AL := AL_4 69 rfl rfl
theorem wq790 : (.methodLink RL 77 yX6_init : Cond) ∈ AL := AL_4 70 rfl rfl
theorem wq791 : (.instanceMethod yX6_init : Cond) ∈ AL := AL_4 71 rfl rfl
theorem wq792 : (.code yX6_init cX6_init 1 (none : Option Jvm.ClassFile.FieldType) : Cond) ∈ AL := AL_4 72 rfl rfl
theorem wq793 : (.methodLink RX6 1 objectInit : Cond) ∈ AL := AL_4 73 rfl rfl
theorem wq794 : (.fieldLink RX6 38 "FireEnginesModel" "thrown" "I" : Cond) ∈ AL := AL_4 74 rfl rfl
theorem wq795 : (.fieldLink RX6 59 "FireEnginesModel" "houses" "I" : Cond) ∈ AL := AL_4 75 rfl rfl
theorem wq796 : (.fieldLink RX6 68 "FireEnginesModel" "ponds" "I" : Cond) ∈ AL := AL_4 76 rfl rfl
theorem wq797 : (.fieldLink RX6 62 "FireEnginesModel" "engines" "I" : Cond) ∈ AL := AL_4 77 rfl rfl
theorem wq798 : (.fieldLink RX6 9 "FireEnginesModel" "pondCells" "[I" : Cond) ∈ AL := AL_4 78 rfl rfl
theorem wq799 : (.fieldLink RX6 13 "FireEnginesModel" "water" "[I" : Cond) ∈ AL := AL_4 79 rfl rfl
theorem wq800 : (.fieldLink RX6 16 "FireEnginesModel" "houseTable" "[I" : Cond) ∈ AL := AL_4 80 rfl rfl
theorem wq801 : (.fieldLink RX6 19 "FireEnginesModel" "engineTable" "[I" : Cond) ∈ AL := AL_4 81 rfl rfl
theorem wq802 : (.fieldLink RX6 22 "FireEnginesModel" "minute" "[I" : Cond) ∈ AL := AL_4 82 rfl rfl
theorem wq803 : (.fieldLink RX6 25 "FireEnginesModel" "comes" "[I" : Cond) ∈ AL := AL_4 83 rfl rfl
theorem wq804 : (.fieldLink RX6 28 "FireEnginesModel" "asked" "[Z" : Cond) ∈ AL := AL_4 84 rfl rfl
theorem wq805 : (.fieldLink RX6 32 "FireEnginesModel" "steps" "[I" : Cond) ∈ AL := AL_4 85 rfl rfl
theorem wq806 : (.fieldLink RX6 35 "FireEnginesModel" "catches" "[Z" : Cond) ∈ AL := AL_4 86 rfl rfl
theorem wq807 : (.lays "FireEnginesModel" "FireEnginesModel" "thrown" "I" : Cond) ∈ AL := AL_4 87 rfl rfl
theorem wq809 : (.lays "FireEnginesModel" "FireEnginesModel" "houses" "I" : Cond) ∈ AL := AL_4 89 rfl rfl
theorem wq811 : (.lays "FireEnginesModel" "FireEnginesModel" "ponds" "I" : Cond) ∈ AL := AL_4 91 rfl rfl
theorem wq813 : (.lays "FireEnginesModel" "FireEnginesModel" "engines" "I" : Cond) ∈ AL := AL_4 93 rfl rfl
theorem wq815 : (.laysFinal "FireEnginesModel" "FireEnginesModel" "pondCells" "[I" : Cond) ∈ AL := AL_4 95 rfl rfl
theorem wq817 : (.laysFinal "FireEnginesModel" "FireEnginesModel" "water" "[I" : Cond) ∈ AL := AL_4 97 rfl rfl
theorem wq819 : (.laysFinal "FireEnginesModel" "FireEnginesModel" "houseTable" "[I" : Cond) ∈ AL := AL_4 99 rfl rfl
theorem wq821 : (.laysFinal "FireEnginesModel" "FireEnginesModel" "engineTable" "[I" : Cond) ∈ AL := AL_4 101 rfl rfl
theorem wq823 : (.laysFinal "FireEnginesModel" "FireEnginesModel" "minute" "[I" : Cond) ∈ AL := AL_4 103 rfl rfl
theorem wq825 : (.laysFinal "FireEnginesModel" "FireEnginesModel" "comes" "[I" : Cond) ∈ AL := AL_4 105 rfl rfl
theorem wq827 : (.laysFinal "FireEnginesModel" "FireEnginesModel" "asked" "[Z" : Cond) ∈ AL := AL_4 107 rfl rfl
theorem wq829 : (.laysFinal "FireEnginesModel" "FireEnginesModel" "steps" "[I" : Cond) ∈ AL := AL_4 109 rfl rfl
theorem wq831 : (.laysFinal "FireEnginesModel" "FireEnginesModel" "catches" "[Z" : Cond) ∈ AL := AL_4 111 rfl rfl
theorem wq834 : (.arrayClass .boolean : Cond) ∈ AL := AL_4 114 rfl rfl
theorem wq835 : (.methodLink RL 84 yX6_thrown : Cond) ∈ AL := AL_4 115 rfl rfl
theorem wq836 : (.instanceMethod yX6_thrown : Cond) ∈ AL := AL_4 116 rfl rfl
theorem wq837 : (.selects RX6 yX6_thrown yX6_thrown : Cond) ∈ AL := AL_4 117 rfl rfl
theorem wq838 : (.code yX6_thrown cX6_thrown 1 (some .int) : Cond) ∈ AL := AL_4 118 rfl rfl
theorem wq839 : (.methodLink RL 83 yX6_build : Cond) ∈ AL := AL_4 119 rfl rfl
theorem wq840 : (.instanceMethod yX6_build : Cond) ∈ AL := AL_4 120 rfl rfl
theorem wq841 : (.selects RX6 yX6_build yX6_build : Cond) ∈ AL := AL_4 121 rfl rfl
theorem wq842 : (.code yX6_build cX6_build 6 (some .int) : Cond) ∈ AL := AL_4 122 rfl rfl
theorem wq843 : (.methodLink RX6 84 yX6_isCell : Cond) ∈ AL := AL_4 123 rfl rfl
theorem wq844 : (.static yX6_isCell : Cond) ∈ AL := AL_4 124 rfl rfl
theorem wq845 : (.code yX6_isCell cX6_isCell 2 (some .boolean) : Cond) ∈ AL := AL_4 125 rfl rfl
theorem wq846 : (.methodLink RX6 42 yX6_isIn : Cond) ∈ AL := AL_4 126 rfl rfl
theorem wq847 : (.static yX6_isIn : Cond) ∈ AL := AL_4 127 rfl rfl
theorem wq848 : (.code yX6_isIn cX6_isIn 3 (some .boolean) : Cond) ∈ AL := AL_4 128 rfl rfl
theorem wq849 : (.methodLink RX6 88 yX6_fail : Cond) ∈ AL := AL_4 129 rfl rfl
theorem wq851 : (.instanceMethod yX6_fail : Cond) ∈ AL := AL_4 131 rfl rfl
theorem wq852 : (.code yX6_fail cX6_fail 2 (some .int) : Cond) ∈ AL := AL_4 132 rfl rfl
theorem wq853 : (.methodLink RX6 91 yX6_isFree : Cond) ∈ AL := AL_4 133 rfl rfl
theorem wq855 : (.instanceMethod yX6_isFree : Cond) ∈ AL := AL_4 135 rfl rfl
theorem wq856 : (.code yX6_isFree cX6_isFree 4 (some .boolean) : Cond) ∈ AL := AL_4 136 rfl rfl
theorem wq857 : (.methodLink RX6 77 yX6_isStreet : Cond) ∈ AL := AL_4 137 rfl rfl
theorem wq859 : (.instanceMethod yX6_isStreet : Cond) ∈ AL := AL_4 139 rfl rfl
theorem wq860 : (.code yX6_isStreet cX6_isStreet 2 (some .boolean) : Cond) ∈ AL := AL_4 140 rfl rfl
theorem wq861 : (.methodLink RX6 71 yX6_houseAt : Cond) ∈ AL := AL_4 141 rfl rfl
theorem wq863 : (.instanceMethod yX6_houseAt : Cond) ∈ AL := AL_4 143 rfl rfl
theorem wq864 : (.code yX6_houseAt cX6_houseAt 3 (some .int) : Cond) ∈ AL := AL_4 144 rfl rfl
theorem wq865 : (.methodLink RX6 65 yX6_ho : Cond) ∈ AL := AL_4 145 rfl rfl
theorem wq867 : (.instanceMethod yX6_ho : Cond) ∈ AL := AL_4 147 rfl rfl
theorem wq868 : (.code yX6_ho cX6_ho 3 (some .int) : Cond) ∈ AL := AL_4 148 rfl rfl
theorem wq869 : (.methodLink RX6 74 yX6_pondAt : Cond) ∈ AL := AL_4 149 rfl rfl
theorem wq871 : (.instanceMethod yX6_pondAt : Cond) ∈ AL := AL_4 151 rfl rfl
theorem wq872 : (.code yX6_pondAt cX6_pondAt 3 (some .int) : Cond) ∈ AL := AL_4 152 rfl rfl
theorem wq873 : (.methodLink RX6 81 yX6_en : Cond) ∈ AL := AL_4 153 rfl rfl
theorem wq875 : (.instanceMethod yX6_en : Cond) ∈ AL := AL_4 155 rfl rfl
theorem wq876 : (.code yX6_en cX6_en 3 (some .int) : Cond) ∈ AL := AL_4 156 rfl rfl
theorem wq877 : (.methodLink RX6 94 arraycopyName : Cond) ∈ AL := AL_4 157 rfl rfl
theorem wq878 : (.methodLink RL 91 yX6_dig : Cond) ∈ AL := AL_4 158 rfl rfl
theorem wq879 : (.instanceMethod yX6_dig : Cond) ∈ AL := AL_4 159 rfl rfl
theorem wq880 : (.selects RX6 yX6_dig yX6_dig : Cond) ∈ AL := AL_4 160 rfl rfl
theorem wq881 : (.code yX6_dig cX6_dig 4 (some .int) : Cond) ∈ AL := AL_4 161 rfl rfl
theorem wq882 : (.methodLink RL 95 yX6_light : Cond) ∈ AL := AL_4 162 rfl rfl
theorem wq883 : (.instanceMethod yX6_light : Cond) ∈ AL := AL_4 163 rfl rfl
theorem wq884 : (.selects RX6 yX6_light yX6_light : Cond) ∈ AL := AL_4 164 rfl rfl
theorem wq885 : (.code yX6_light cX6_light 3 (some .int) : Cond) ∈ AL := AL_4 165 rfl rfl
theorem wq886 : (.methodLink RX6 100 yX6_isHouse : Cond) ∈ AL := AL_4 166 rfl rfl
theorem wq888 : (.instanceMethod yX6_isHouse : Cond) ∈ AL := AL_4 168 rfl rfl
theorem wq889 : (.code yX6_isHouse cX6_isHouse 2 (some .boolean) : Cond) ∈ AL := AL_4 169 rfl rfl
theorem wq890 : (.methodLink RX6 103 yX6_setHo : Cond) ∈ AL := AL_4 170 rfl rfl
theorem wq892 : (.instanceMethod yX6_setHo : Cond) ∈ AL := AL_4 172 rfl rfl
theorem wq893 : (.code yX6_setHo cX6_setHo 4 (none : Option Jvm.ClassFile.FieldType) : Cond) ∈ AL := AL_4 173 rfl rfl
theorem wq894 : (.methodLink RX6 107 yX6_with : Cond) ∈ AL := AL_4 174 rfl rfl
theorem wq896 : (.instanceMethod yX6_with : Cond) ∈ AL := AL_4 176 rfl rfl
theorem wq897 : (.code yX6_with cX6_with 4 (some .int) : Cond) ∈ AL := AL_4 177 rfl rfl
theorem wq898 : (.methodLink RL 98 yX6_cell : Cond) ∈ AL := AL_4 178 rfl rfl
theorem wq899 : (.instanceMethod yX6_cell : Cond) ∈ AL := AL_4 179 rfl rfl
theorem wq900 : (.selects RX6 yX6_cell yX6_cell : Cond) ∈ AL := AL_4 180 rfl rfl
theorem wq901 : (.code yX6_cell cX6_cell 7 (some .int) : Cond) ∈ AL := AL_4 181 rfl rfl
theorem wq902 : (.methodLink RX6 113 yX6_heatNear : Cond) ∈ AL := AL_4 182 rfl rfl
theorem wq904 : (.instanceMethod yX6_heatNear : Cond) ∈ AL := AL_4 184 rfl rfl
theorem wq905 : (.code yX6_heatNear cX6_heatNear 4 (some .int) : Cond) ∈ AL := AL_4 185 rfl rfl
theorem wq906 : (.methodLink RX6 110 yX6_isNear : Cond) ∈ AL := AL_4 186 rfl rfl
theorem wq907 : (.static yX6_isNear : Cond) ∈ AL := AL_4 187 rfl rfl
theorem wq908 : (.code yX6_isNear cX6_isNear 2 (some .boolean) : Cond) ∈ AL := AL_4 188 rfl rfl
theorem wq909 : (.methodLink RX6 52 yX6_columns : Cond) ∈ AL := AL_4 189 rfl rfl
theorem wq910 : (.static yX6_columns : Cond) ∈ AL := AL_4 190 rfl rfl
theorem wq911 : (.code yX6_columns cX6_columns 2 (some .int) : Cond) ∈ AL := AL_4 191 rfl rfl
theorem wq912 : (.methodLink RX6 46 Lib.Math.abs.name : Cond) ∈ AL := AL_4 192 rfl rfl
theorem wq913 : (.methodLink RX6 56 yX6_rows : Cond) ∈ AL := AL_4 193 rfl rfl
theorem wq914 : (.static yX6_rows : Cond) ∈ AL := AL_4 194 rfl rfl
theorem wq915 : (.code yX6_rows cX6_rows 2 (some .int) : Cond) ∈ AL := AL_4 195 rfl rfl
theorem wq916 : (.methodLink RL 101 yX6_house : Cond) ∈ AL := AL_4 196 rfl rfl
theorem wq917 : (.instanceMethod yX6_house : Cond) ∈ AL := AL_4 197 rfl rfl
theorem wq918 : (.selects RX6 yX6_house yX6_house : Cond) ∈ AL := AL_4 198 rfl rfl
theorem wq919 : (.code yX6_house cX6_house 3 (some .int) : Cond) ∈ AL := AL_4 199 rfl rfl
theorem wq920 : (.methodLink RL 104 yX6_addEngine : Cond) ∈ AL := AL_4 200 rfl rfl
theorem wq921 : (.instanceMethod yX6_addEngine : Cond) ∈ AL := AL_4 201 rfl rfl
theorem wq922 : (.selects RX6 yX6_addEngine yX6_addEngine : Cond) ∈ AL := AL_4 202 rfl rfl
theorem wq923 : (.code yX6_addEngine cX6_addEngine 6 (some .int) : Cond) ∈ AL := AL_4 203 rfl rfl
theorem wq924 : (.methodLink RL 107 yX6_stoke : Cond) ∈ AL := AL_4 204 rfl rfl
theorem wq925 : (.instanceMethod yX6_stoke : Cond) ∈ AL := AL_4 205 rfl rfl
theorem wq926 : (.selects RX6 yX6_stoke yX6_stoke : Cond) ∈ AL := AL_4 206 rfl rfl
theorem wq927 : (.code yX6_stoke cX6_stoke 3 (some .int) : Cond) ∈ AL := AL_4 207 rfl rfl
theorem wq928 : (.methodLink RX6 116 yX6_isEngine : Cond) ∈ AL := AL_4 208 rfl rfl
theorem wq930 : (.instanceMethod yX6_isEngine : Cond) ∈ AL := AL_4 210 rfl rfl
theorem wq931 : (.code yX6_isEngine cX6_isEngine 2 (some .boolean) : Cond) ∈ AL := AL_4 211 rfl rfl
theorem wq932 : (.methodLink RX6 119 yX6_setEn : Cond) ∈ AL := AL_4 212 rfl rfl
theorem wq934 : (.instanceMethod yX6_setEn : Cond) ∈ AL := AL_4 214 rfl rfl
theorem wq935 : (.code yX6_setEn cX6_setEn 4 (none : Option Jvm.ClassFile.FieldType) : Cond) ∈ AL := AL_4 215 rfl rfl
theorem wq936 : (.methodLink RL 110 yX6_drive : Cond) ∈ AL := AL_4 216 rfl rfl
theorem wq937 : (.instanceMethod yX6_drive : Cond) ∈ AL := AL_4 217 rfl rfl
theorem wq938 : (.selects RX6 yX6_drive yX6_drive : Cond) ∈ AL := AL_4 218 rfl rfl
theorem wq939 : (.code yX6_drive cX6_drive 6 (some .int) : Cond) ∈ AL := AL_4 219 rfl rfl
theorem wq940 : (.methodLink RX6 122 yX6_way : Cond) ∈ AL := AL_4 220 rfl rfl
theorem wq942 : (.instanceMethod yX6_way : Cond) ∈ AL := AL_4 222 rfl rfl
theorem wq943 : (.code yX6_way cX6_way 6 (some .int) : Cond) ∈ AL := AL_4 223 rfl rfl
theorem wq944 : (.methodLink RL 113 yX6_relay : Cond) ∈ AL := AL_4 224 rfl rfl
theorem wq945 : (.instanceMethod yX6_relay : Cond) ∈ AL := AL_4 225 rfl rfl
theorem wq946 : (.selects RX6 yX6_relay yX6_relay : Cond) ∈ AL := AL_4 226 rfl rfl
theorem wq947 : (.code yX6_relay cX6_relay 4 (some .int) : Cond) ∈ AL := AL_4 227 rfl rfl
theorem wq948 : (.methodLink RX6 125 yX6_far : Cond) ∈ AL := AL_4 228 rfl rfl
theorem wq949 : (.static yX6_far : Cond) ∈ AL := AL_4 229 rfl rfl
theorem wq950 : (.code yX6_far cX6_far 2 (some .int) : Cond) ∈ AL := AL_4 230 rfl rfl
theorem wq951 : (.methodLink RX6 128 yX6_stands : Cond) ∈ AL := AL_4 231 rfl rfl
theorem wq953 : (.instanceMethod yX6_stands : Cond) ∈ AL := AL_4 233 rfl rfl
theorem wq954 : (.code yX6_stands cX6_stands 2 (some .boolean) : Cond) ∈ AL := AL_4 234 rfl rfl
theorem wq955 : (.methodLink RX6 131 yX6_leads : Cond) ∈ AL := AL_4 235 rfl rfl
theorem wq957 : (.instanceMethod yX6_leads : Cond) ∈ AL := AL_4 237 rfl rfl
theorem wq958 : (.code yX6_leads cX6_leads 4 (some .boolean) : Cond) ∈ AL := AL_4 238 rfl rfl
theorem wq959 : (.methodLink RL 116 yX6_aim : Cond) ∈ AL := AL_4 239 rfl rfl
theorem wq960 : (.instanceMethod yX6_aim : Cond) ∈ AL := AL_5 0 rfl rfl
theorem wq961 : (.selects RX6 yX6_aim yX6_aim : Cond) ∈ AL := AL_5 1 rfl rfl
theorem wq962 : (.code yX6_aim cX6_aim 4 (some .int) : Cond) ∈ AL := AL_5 2 rfl rfl
theorem wq963 : (.methodLink RL 120 yX6_takeUp : Cond) ∈ AL := AL_5 3 rfl rfl
theorem wq964 : (.instanceMethod yX6_takeUp : Cond) ∈ AL := AL_5 4 rfl rfl
theorem wq965 : (.selects RX6 yX6_takeUp yX6_takeUp : Cond) ∈ AL := AL_5 5 rfl rfl
theorem wq966 : (.code yX6_takeUp cX6_takeUp 3 (some .boolean) : Cond) ∈ AL := AL_5 6 rfl rfl
theorem wq967 : (.methodLink RL 123 yX6_engine : Cond) ∈ AL := AL_5 7 rfl rfl
theorem wq968 : (.instanceMethod yX6_engine : Cond) ∈ AL := AL_5 8 rfl rfl
theorem wq969 : (.selects RX6 yX6_engine yX6_engine : Cond) ∈ AL := AL_5 9 rfl rfl
theorem wq970 : (.code yX6_engine cX6_engine 3 (some .int) : Cond) ∈ AL := AL_5 10 rfl rfl
theorem wq971 : (.methodLink RX6 140 yX6_engineTold : Cond) ∈ AL := AL_5 11 rfl rfl
theorem wq973 : (.instanceMethod yX6_engineTold : Cond) ∈ AL := AL_5 13 rfl rfl
theorem wq974 : (.code yX6_engineTold cX6_engineTold 3 (some .int) : Cond) ∈ AL := AL_5 14 rfl rfl
theorem wq975 : (.methodLink RX6 134 yX6_source : Cond) ∈ AL := AL_5 15 rfl rfl
theorem wq977 : (.instanceMethod yX6_source : Cond) ∈ AL := AL_5 17 rfl rfl
theorem wq978 : (.code yX6_source cX6_source 3 (some .int) : Cond) ∈ AL := AL_5 18 rfl rfl
theorem wq979 : (.methodLink RX6 137 yX6_canPump : Cond) ∈ AL := AL_5 19 rfl rfl
theorem wq981 : (.instanceMethod yX6_canPump : Cond) ∈ AL := AL_5 21 rfl rfl
theorem wq982 : (.code yX6_canPump cX6_canPump 2 (some .int) : Cond) ∈ AL := AL_5 22 rfl rfl
theorem wq983 : (.methodLink RL 126 yX6_pond : Cond) ∈ AL := AL_5 23 rfl rfl
theorem wq984 : (.instanceMethod yX6_pond : Cond) ∈ AL := AL_5 24 rfl rfl
theorem wq985 : (.selects RX6 yX6_pond yX6_pond : Cond) ∈ AL := AL_5 25 rfl rfl
theorem wq986 : (.code yX6_pond cX6_pond 2 (some .int) : Cond) ∈ AL := AL_5 26 rfl rfl
theorem wq987 : (.methodLink RL 129 yX6_pass : Cond) ∈ AL := AL_5 27 rfl rfl
theorem wq988 : (.instanceMethod yX6_pass : Cond) ∈ AL := AL_5 28 rfl rfl
theorem wq989 : (.selects RX6 yX6_pass yX6_pass : Cond) ∈ AL := AL_5 29 rfl rfl
theorem wq990 : (.code yX6_pass cX6_pass 4 (some .int) : Cond) ∈ AL := AL_5 30 rfl rfl
theorem wq991 : (.methodLink RX6 163 yX6_minuteOn : Cond) ∈ AL := AL_5 31 rfl rfl
theorem wq993 : (.instanceMethod yX6_minuteOn : Cond) ∈ AL := AL_5 33 rfl rfl
theorem wq994 : (.code yX6_minuteOn cX6_minuteOn 3 (some .int) : Cond) ∈ AL := AL_5 34 rfl rfl
theorem wq995 : (.methodLink RX6 143 Lib.Math.max.name : Cond) ∈ AL := AL_5 35 rfl rfl
theorem wq996 : (.methodLink RX6 146 Lib.Math.min.name : Cond) ∈ AL := AL_5 36 rfl rfl
theorem wq997 : (.methodLink RX6 157 yX6_pumpAll : Cond) ∈ AL := AL_5 37 rfl rfl
theorem wq999 : (.instanceMethod yX6_pumpAll : Cond) ∈ AL := AL_5 39 rfl rfl
theorem wq1000 : (.code yX6_pumpAll cX6_pumpAll 2 (none : Option Jvm.ClassFile.FieldType) : Cond) ∈ AL := AL_5 40 rfl rfl
theorem wq1001 : (.methodLink RX6 149 yX6_next : Cond) ∈ AL := AL_5 41 rfl rfl
theorem wq1003 : (.instanceMethod yX6_next : Cond) ∈ AL := AL_5 43 rfl rfl
theorem wq1004 : (.code yX6_next cX6_next 4 (some .int) : Cond) ∈ AL := AL_5 44 rfl rfl
theorem wq1005 : (.methodLink RX6 153 yX6_pump : Cond) ∈ AL := AL_5 45 rfl rfl
theorem wq1007 : (.instanceMethod yX6_pump : Cond) ∈ AL := AL_5 47 rfl rfl
theorem wq1008 : (.code yX6_pump cX6_pump 10 (none : Option Jvm.ClassFile.FieldType) : Cond) ∈ AL := AL_5 48 rfl rfl
theorem wq1009 : (.methodLink RX6 160 yX6_burn : Cond) ∈ AL := AL_5 49 rfl rfl
theorem wq1011 : (.instanceMethod yX6_burn : Cond) ∈ AL := AL_5 51 rfl rfl
theorem wq1012 : (.code yX6_burn cX6_burn 3 (none : Option Jvm.ClassFile.FieldType) : Cond) ∈ AL := AL_5 52 rfl rfl
theorem wq1013 : (.methodLink RL 132 yX6_count : Cond) ∈ AL := AL_5 53 rfl rfl
theorem wq1014 : (.instanceMethod yX6_count : Cond) ∈ AL := AL_5 54 rfl rfl
theorem wq1015 : (.selects RX6 yX6_count yX6_count : Cond) ∈ AL := AL_5 55 rfl rfl
theorem wq1016 : (.code yX6_count cX6_count 2 (some .int) : Cond) ∈ AL := AL_5 56 rfl rfl
theorem wq1017 : (.methodLink RX6 166 yX6_counted : Cond) ∈ AL := AL_5 57 rfl rfl
theorem wq1019 : (.instanceMethod yX6_counted : Cond) ∈ AL := AL_5 59 rfl rfl
theorem wq1020 : (.code yX6_counted cX6_counted 4 (some .int) : Cond) ∈ AL := AL_5 60 rfl rfl
theorem wq1021 : (.methodLink RL 135 yX6_foresee : Cond) ∈ AL := AL_5 61 rfl rfl
theorem wq1022 : (.instanceMethod yX6_foresee : Cond) ∈ AL := AL_5 62 rfl rfl
theorem wq1023 : (.selects RX6 yX6_foresee yX6_foresee : Cond) ∈ AL := AL_5 63 rfl rfl
theorem wq1024 : (.code yX6_foresee cX6_foresee 5 (some .int) : Cond) ∈ AL := AL_5 64 rfl rfl
theorem wq1025 : (.methodLink RX6 174 yX6_kept : Cond) ∈ AL := AL_5 65 rfl rfl
theorem wq1027 : (.instanceMethod yX6_kept : Cond) ∈ AL := AL_5 67 rfl rfl
theorem wq1028 : (.code yX6_kept cX6_kept 1 (some (.array (.array .int))) : Cond) ∈ AL := AL_5 68 rfl rfl
theorem wq1029 : (.classLink RX6 169 "[I" : Cond) ∈ AL := AL_5 69 rfl rfl
theorem wt1030 : (.arrayOver (.array .int) : Cond) ∈ lw_tbl := AT_5 70 rfl
theorem wq1031 : (.methodLink RX6 170 ⟨"[I", "clone", "()Ljava/lang/Object;"⟩ : Cond) ∈ AL := AL_5 71 rfl rfl
theorem wq1032 : (.sameMethod "[I" "java/lang/Object" "clone" "()Ljava/lang/Object;" : Cond) ∈ AL := AL_5 72 rfl rfl
theorem wq1033 : (.native ⟨"java/lang/Object", "clone", "()Ljava/lang/Object;"⟩ : Cond) ∈ AL := AL_5 73 rfl rfl
theorem wq1034 : (.instanceMethod ⟨"java/lang/Object", "clone", "()Ljava/lang/Object;"⟩ : Cond) ∈ AL := AL_5 74 rfl rfl
theorem wq1035 : (.selects "[I" ⟨"[I", "clone", "()Ljava/lang/Object;"⟩ ⟨"java/lang/Object", "clone", "()Ljava/lang/Object;"⟩ : Cond) ∈ AL := AL_5 75 rfl rfl
theorem wq1037 : (.methodLink RX6 178 yX6_bringBack : Cond) ∈ AL := AL_5 77 rfl rfl
theorem wq1039 : (.instanceMethod yX6_bringBack : Cond) ∈ AL := AL_5 79 rfl rfl
theorem wq1040 : (.code yX6_bringBack cX6_bringBack 4 (none : Option Jvm.ClassFile.FieldType) : Cond) ∈ AL := AL_5 80 rfl rfl
theorem wq1041 : (.methodLink RL 139 yX6_lasts : Cond) ∈ AL := AL_5 81 rfl rfl
theorem wq1042 : (.instanceMethod yX6_lasts : Cond) ∈ AL := AL_5 82 rfl rfl
theorem wq1043 : (.selects RX6 yX6_lasts yX6_lasts : Cond) ∈ AL := AL_5 83 rfl rfl
theorem wq1044 : (.code yX6_lasts cX6_lasts 3 (some .int) : Cond) ∈ AL := AL_5 84 rfl rfl
theorem wq1045 : (.methodLink RL 142 yX6_weakest : Cond) ∈ AL := AL_5 85 rfl rfl
theorem wq1046 : (.instanceMethod yX6_weakest : Cond) ∈ AL := AL_5 86 rfl rfl
theorem wq1047 : (.selects RX6 yX6_weakest yX6_weakest : Cond) ∈ AL := AL_5 87 rfl rfl
theorem wq1048 : (.code yX6_weakest cX6_weakest 4 (some .int) : Cond) ∈ AL := AL_5 88 rfl rfl
theorem wq1049 : (.methodLink RL 145 yX6_advise : Cond) ∈ AL := AL_5 89 rfl rfl
theorem wq1050 : (.instanceMethod yX6_advise : Cond) ∈ AL := AL_5 90 rfl rfl
theorem wq1051 : (.selects RX6 yX6_advise yX6_advise : Cond) ∈ AL := AL_5 91 rfl rfl
theorem wq1052 : (.code yX6_advise cX6_advise 8 (some .int) : Cond) ∈ AL := AL_5 92 rfl rfl
theorem wq1053 : (.methodLink RL 150 yX6_walls : Cond) ∈ AL := AL_5 93 rfl rfl
theorem wq1054 : (.instanceMethod yX6_walls : Cond) ∈ AL := AL_5 94 rfl rfl
theorem wq1055 : (.selects RX6 yX6_walls yX6_walls : Cond) ∈ AL := AL_5 95 rfl rfl
theorem wq1056 : (.code yX6_walls cX6_walls 3 (some .double) : Cond) ∈ AL := AL_5 96 rfl rfl
theorem wq1057 : (.methodLink RL 155 yX6_digest : Cond) ∈ AL := AL_5 97 rfl rfl
theorem wq1058 : (.instanceMethod yX6_digest : Cond) ∈ AL := AL_5 98 rfl rfl
theorem wq1059 : (.selects RX6 yX6_digest yX6_digest : Cond) ∈ AL := AL_5 99 rfl rfl
theorem wq1060 : (.code yX6_digest cX6_digest 5 (some .long) : Cond) ∈ AL := AL_5 100 rfl rfl
theorem wq1061 : (.constantLong RX6 182 (607) : Cond) ∈ AL := AL_5 101 rfl rfl
theorem wq1062 : (.constantLong RX6 184 (31) : Cond) ∈ AL := AL_5 102 rfl rfl
theorem wq1063 : (.arrayClass .long : Cond) ∈ AL := AL_5 103 rfl rfl
theorem wq1064 : (.sameMethod "java/lang/Throwable" "java/lang/Throwable" "fillInStackTrace" "(I)Ljava/lang/Throwable;" : Cond) ∈ AL := AL_5 104 rfl rfl
theorem wq1078 : (.sameMethod "[Ljava/lang/Object;" "java/lang/Object" "getClass" "()Ljava/lang/Class;" : Cond) ∈ AL := AL_5 118 rfl rfl
theorem wq1079 : (.selects "[Ljava/lang/Object;" ⟨"java/lang/Object", "getClass", "()Ljava/lang/Class;"⟩ ⟨"java/lang/Object", "getClass", "()Ljava/lang/Class;"⟩ : Cond) ∈ AL := AL_5 119 rfl rfl
theorem ws0 : (.selects RJx4a65c yJx4a65c_add_72be8 yJx4a65c_add_72be8 : Cond) ∈ AL := AL_s 0 rfl rfl
theorem ws1 : (.selects RJx4a65c yJx4a65c_grow_d5877 yJx4a65c_grow_d5877 : Cond) ∈ AL := AL_s 1 rfl rfl
theorem ws2 : (.selects RJx4a65c yJx4a65c_grow_92f84 yJx4a65c_grow_92f84 : Cond) ∈ AL := AL_s 2 rfl rfl
theorem ws3 : (.selects RX4 yX4_fireAndDrive yX4_fireAndDrive : Cond) ∈ AL := AL_s 3 rfl rfl
theorem ws4 : (.selects RX4 yX4_moveWater yX4_moveWater : Cond) ∈ AL := AL_s 4 rfl rfl
theorem ws5 : (.selects RX4 yX4_nextToAsk yX4_nextToAsk : Cond) ∈ AL := AL_s 5 rfl rfl
theorem ws6 : (.selects RX4 yX4_waitsForWater yX4_waitsForWater : Cond) ∈ AL := AL_s 6 rfl rfl
theorem ws7 : (.selects RX4 yX4_isEngine yX4_isEngine : Cond) ∈ AL := AL_s 7 rfl rfl
theorem ws8 : (.selects RX4 yX4_ask yX4_ask : Cond) ∈ AL := AL_s 8 rfl rfl
theorem ws9 : (.selects RX4 yX4_pondBy yX4_pondBy : Cond) ∈ AL := AL_s 9 rfl rfl
theorem ws10 : (.selects RX4 yX4_sendThroughHose yX4_sendThroughHose : Cond) ∈ AL := AL_s 10 rfl rfl
theorem ws11 : (.selects RX4 yX4_isHouse yX4_isHouse : Cond) ∈ AL := AL_s 11 rfl rfl
theorem ws12 : (.selects RX2 yX2_endFire yX2_endFire : Cond) ∈ AL := AL_s 12 rfl rfl
theorem ws13 : (.selects RX4 yX4_catchFire yX4_catchFire : Cond) ∈ AL := AL_s 13 rfl rfl
theorem ws14 : (.selects RX4 yX4_waterOfPonds yX4_waterOfPonds : Cond) ∈ AL := AL_s 14 rfl rfl
theorem ws15 : (.selects RX4 yX4_sumOverHouses yX4_sumOverHouses : Cond) ∈ AL := AL_s 15 rfl rfl
theorem ws16 : (.selects "java/lang/Throwable" ⟨"java/lang/Throwable", "fillInStackTrace", "(I)Ljava/lang/Throwable;"⟩ ⟨"java/lang/Throwable", "fillInStackTrace", "(I)Ljava/lang/Throwable;"⟩ : Cond) ∈ AL := AL_s 16 rfl rfl
theorem ws17 : (.selects RX5 yX5_isFree yX5_isFree : Cond) ∈ AL := AL_s 17 rfl rfl
theorem ws18 : (.selects RX5 yX5_requireHouse yX5_requireHouse : Cond) ∈ AL := AL_s 18 rfl rfl
theorem ws19 : (.selects RX5 yX5_requireEngine yX5_requireEngine : Cond) ∈ AL := AL_s 19 rfl rfl
theorem ws20 : (.selects RX1 yX1_spread yX1_spread : Cond) ∈ AL := AL_s 20 rfl rfl
theorem ws21 : (.selects RX1 yX1_enter yX1_enter : Cond) ∈ AL := AL_s 21 rfl rfl
theorem ws22 : (.selects RX5 yX5_fallenIfAimed yX5_fallenIfAimed : Cond) ∈ AL := AL_s 22 rfl rfl
theorem ws23 : (.selects RX6 yX6_fail yX6_fail : Cond) ∈ AL := AL_s 23 rfl rfl
theorem ws24 : (.selects RX6 yX6_isFree yX6_isFree : Cond) ∈ AL := AL_s 24 rfl rfl
theorem ws25 : (.selects RX6 yX6_isStreet yX6_isStreet : Cond) ∈ AL := AL_s 25 rfl rfl
theorem ws26 : (.selects RX6 yX6_houseAt yX6_houseAt : Cond) ∈ AL := AL_s 26 rfl rfl
theorem ws27 : (.selects RX6 yX6_ho yX6_ho : Cond) ∈ AL := AL_s 27 rfl rfl
theorem ws28 : (.selects RX6 yX6_pondAt yX6_pondAt : Cond) ∈ AL := AL_s 28 rfl rfl
theorem ws29 : (.selects RX6 yX6_en yX6_en : Cond) ∈ AL := AL_s 29 rfl rfl
theorem ws30 : (.selects RX6 yX6_isHouse yX6_isHouse : Cond) ∈ AL := AL_s 30 rfl rfl
theorem ws31 : (.selects RX6 yX6_setHo yX6_setHo : Cond) ∈ AL := AL_s 31 rfl rfl
theorem ws32 : (.selects RX6 yX6_with yX6_with : Cond) ∈ AL := AL_s 32 rfl rfl
theorem ws33 : (.selects RX6 yX6_heatNear yX6_heatNear : Cond) ∈ AL := AL_s 33 rfl rfl
theorem ws34 : (.selects RX6 yX6_isEngine yX6_isEngine : Cond) ∈ AL := AL_s 34 rfl rfl
theorem ws35 : (.selects RX6 yX6_setEn yX6_setEn : Cond) ∈ AL := AL_s 35 rfl rfl
theorem ws36 : (.selects RX6 yX6_way yX6_way : Cond) ∈ AL := AL_s 36 rfl rfl
theorem ws37 : (.selects RX6 yX6_stands yX6_stands : Cond) ∈ AL := AL_s 37 rfl rfl
theorem ws38 : (.selects RX6 yX6_leads yX6_leads : Cond) ∈ AL := AL_s 38 rfl rfl
theorem ws39 : (.selects RX6 yX6_engineTold yX6_engineTold : Cond) ∈ AL := AL_s 39 rfl rfl
theorem ws40 : (.selects RX6 yX6_source yX6_source : Cond) ∈ AL := AL_s 40 rfl rfl
theorem ws41 : (.selects RX6 yX6_canPump yX6_canPump : Cond) ∈ AL := AL_s 41 rfl rfl
theorem ws42 : (.selects RX6 yX6_minuteOn yX6_minuteOn : Cond) ∈ AL := AL_s 42 rfl rfl
theorem ws43 : (.selects RX6 yX6_pumpAll yX6_pumpAll : Cond) ∈ AL := AL_s 43 rfl rfl
theorem ws44 : (.selects RX6 yX6_next yX6_next : Cond) ∈ AL := AL_s 44 rfl rfl
theorem ws45 : (.selects RX6 yX6_pump yX6_pump : Cond) ∈ AL := AL_s 45 rfl rfl
theorem ws46 : (.selects RX6 yX6_burn yX6_burn : Cond) ∈ AL := AL_s 46 rfl rfl
theorem ws47 : (.selects RX6 yX6_counted yX6_counted : Cond) ∈ AL := AL_s 47 rfl rfl
theorem ws48 : (.selects RX6 yX6_kept yX6_kept : Cond) ∈ AL := AL_s 48 rfl rfl
theorem ws49 : (.selects RX6 yX6_bringBack yX6_bringBack : Cond) ∈ AL := AL_s 49 rfl rfl
/-- the words that no warming keeps by itself: nest mates, casts -/
def NW : List Cond := [(.methodLinkNest RX5 11 yX1_init "FireEngines"), (.methodLinkNest RX5 18 yX4_init "FireEngines"), (.fieldLinkNest RX5 42 "FireEngines$Town" "houses" "Ljava/util/ArrayList;" "FireEngines"), (.fieldLinkNest RX5 67 "FireEngines$Town" "ponds" "Ljava/util/ArrayList;" "FireEngines"), (.fieldLinkNest RX5 114 "FireEngines$Town" "engines" "Ljava/util/ArrayList;" "FireEngines"), (.fieldLinkNest RX4 116 "FireEngines$House" "cell" "I" "FireEngines"), (.fieldLinkNest RX5 155 "FireEngines$House" "cell" "I" "FireEngines"), (.fieldLinkNest RX5 185 "FireEngines$House" "walls" "I" "FireEngines"), (.fieldLinkNest RX5 82 "FireEngines$House" "state" "I" "FireEngines"), (.fieldLinkNest RX4 104 "FireEngines$House" "state" "I" "FireEngines"), (.fieldLinkNest RX4 121 "FireEngines$House" "heat" "I" "FireEngines"), (.fieldLinkNest RX4 151 "FireEngines$House" "came" "I" "FireEngines"), (.fieldLinkNest RX4 128 "FireEngines$Pond" "cell" "I" "FireEngines"), (.fieldLinkNest RX5 192 "FireEngines$Pond" "cell" "I" "FireEngines"), (.fieldLinkNest RX4 110 "FireEngines$Pond" "water" "I" "FireEngines"), (.fieldLinkNest RX5 167 "FireEngines$Pond" "water" "I" "FireEngines"), (.fieldLinkNest RX4 73 "FireEngines$Engine" "cell" "I" "FireEngines"), (.fieldLinkNest RX5 130 "FireEngines$Engine" "cell" "I" "FireEngines"), (.fieldLinkNest RX4 76 "FireEngines$Engine" "horses" "I" "FireEngines"), (.fieldLinkNest RX4 79 "FireEngines$Engine" "power" "I" "FireEngines"), (.fieldLinkNest RX4 82 "FireEngines$Engine" "coal" "I" "FireEngines"), (.fieldLinkNest RX5 123 "FireEngines$Engine" "coal" "I" "FireEngines"), (.fieldLinkNest RX4 85 "FireEngines$Engine" "steam" "I" "FireEngines"), (.fieldLinkNest RX4 88 "FireEngines$Engine" "minutesLeft" "I" "FireEngines"), (.fieldLinkNest RX5 142 "FireEngines$Engine" "minutesLeft" "I" "FireEngines"), (.fieldLinkNest RX4 113 "FireEngines$Engine" "goal" "I" "FireEngines"), (.fieldLinkNest RX4 91 "FireEngines$Engine" "hose" "I" "FireEngines"), (.fieldLinkNest RX5 152 "FireEngines$Engine" "hose" "I" "FireEngines"), (.fieldLinkNest RX4 154 "FireEngines$Engine" "came" "I" "FireEngines"), (.fieldLinkNest RX4 98 "FireEngines$Engine" "gave" "I" "FireEngines"), (.fieldLinkNest RX4 155 "FireEngines$Engine" "asked" "Z" "FireEngines"), (.methodLinkNest RX4 117 yX5_areNear "FireEngines"), (.methodLinkNest RX4 183 yX5_distance "FireEngines"), (.castable "java/lang/IndexOutOfBoundsException" "java/lang/IndexOutOfBoundsException"), (.declares ⟨"java/lang/RuntimeException", "<init>", "()V"⟩), (.declares ⟨"java/lang/RuntimeException", "<init>", "(Ljava/lang/String;)V"⟩), (.declares ⟨"java/lang/Exception", "<init>", "()V"⟩), (.declares ⟨"java/lang/Exception", "<init>", "(Ljava/lang/String;)V"⟩), (.declares ⟨"java/lang/Throwable", "<init>", "()V"⟩), (.declares ⟨"java/lang/Throwable", "<init>", "(Ljava/lang/String;)V"⟩), (.castable "java/lang/IllegalArgumentException" "java/lang/IllegalArgumentException"), (.castable "java/lang/IllegalStateException" "java/lang/IllegalStateException"), (.methodLinkNest RX1 42 yX5_isOnMap "FireEngines"), (.methodLinkNest RX1 46 yX5_cellAt "FireEngines"), (.castable "[I" "java/lang/Cloneable"), (.castable RX5 "java/lang/Object"), (.castable RX1 "java/lang/Object"), (.castable RX4 "java/lang/Object"), (.castable RJx4a65c "java/lang/Object"), (.castable RX6 "java/lang/Object"), (.castable "java/lang/IndexOutOfBoundsException" "java/lang/Object"), (.castable "java/lang/IllegalArgumentException" "java/lang/Object"), (.castable "java/lang/IllegalStateException" "java/lang/Object"), (.castable RX2 "java/lang/Object"), (.castable RX3 "java/lang/Object"), (.castable RX0 "java/lang/Object"), (.castable "java/lang/Throwable" "java/lang/Object"), (.castable RJ0 "java/lang/Object"), (.declares ⟨"java/lang/Object", "getClass", "()Ljava/lang/Class;"⟩), (.castable "[I" "java/lang/Object"), (.castable "[Ljava/lang/Object;" "java/lang/Object"), (.castable "[B" "java/lang/Object"), (.castable "[Z" "java/lang/Object"), (.castable "[[I" "java/lang/Object"), (.castable "[J" "java/lang/Object")]
theorem wn33 : (.methodLinkNest RX5 11 yX1_init "FireEngines" : Cond) ∈ NW := List.mem_of_getElem? (i := 0) rfl
theorem wt33 : (.methodLinkNest RX5 11 yX1_init "FireEngines" : Cond) ∈ lw_tbl := AT_1 33 rfl
theorem wn50 : (.methodLinkNest RX5 18 yX4_init "FireEngines" : Cond) ∈ NW := List.mem_of_getElem? (i := 1) rfl
theorem wt50 : (.methodLinkNest RX5 18 yX4_init "FireEngines" : Cond) ∈ lw_tbl := AT_1 50 rfl
theorem wn82 : (.fieldLinkNest RX5 42 "FireEngines$Town" "houses" "Ljava/util/ArrayList;" "FireEngines" : Cond) ∈ NW := List.mem_of_getElem? (i := 2) rfl
theorem wt82 : (.fieldLinkNest RX5 42 "FireEngines$Town" "houses" "Ljava/util/ArrayList;" "FireEngines" : Cond) ∈ lw_tbl := AT_1 82 rfl
theorem wn84 : (.fieldLinkNest RX5 67 "FireEngines$Town" "ponds" "Ljava/util/ArrayList;" "FireEngines" : Cond) ∈ NW := List.mem_of_getElem? (i := 3) rfl
theorem wt84 : (.fieldLinkNest RX5 67 "FireEngines$Town" "ponds" "Ljava/util/ArrayList;" "FireEngines" : Cond) ∈ lw_tbl := AT_1 84 rfl
theorem wn86 : (.fieldLinkNest RX5 114 "FireEngines$Town" "engines" "Ljava/util/ArrayList;" "FireEngines" : Cond) ∈ NW := List.mem_of_getElem? (i := 4) rfl
theorem wt86 : (.fieldLinkNest RX5 114 "FireEngines$Town" "engines" "Ljava/util/ArrayList;" "FireEngines" : Cond) ∈ lw_tbl := AT_1 86 rfl
theorem wn125 : (.fieldLinkNest RX4 116 "FireEngines$House" "cell" "I" "FireEngines" : Cond) ∈ NW := List.mem_of_getElem? (i := 5) rfl
theorem wt125 : (.fieldLinkNest RX4 116 "FireEngines$House" "cell" "I" "FireEngines" : Cond) ∈ lw_tbl := AT_1 125 rfl
theorem wn126 : (.fieldLinkNest RX5 155 "FireEngines$House" "cell" "I" "FireEngines" : Cond) ∈ NW := List.mem_of_getElem? (i := 6) rfl
theorem wt126 : (.fieldLinkNest RX5 155 "FireEngines$House" "cell" "I" "FireEngines" : Cond) ∈ lw_tbl := AT_1 126 rfl
theorem wn129 : (.fieldLinkNest RX5 185 "FireEngines$House" "walls" "I" "FireEngines" : Cond) ∈ NW := List.mem_of_getElem? (i := 7) rfl
theorem wt129 : (.fieldLinkNest RX5 185 "FireEngines$House" "walls" "I" "FireEngines" : Cond) ∈ lw_tbl := AT_1 129 rfl
theorem wn131 : (.fieldLinkNest RX5 82 "FireEngines$House" "state" "I" "FireEngines" : Cond) ∈ NW := List.mem_of_getElem? (i := 8) rfl
theorem wt131 : (.fieldLinkNest RX5 82 "FireEngines$House" "state" "I" "FireEngines" : Cond) ∈ lw_tbl := AT_1 131 rfl
theorem wn132 : (.fieldLinkNest RX4 104 "FireEngines$House" "state" "I" "FireEngines" : Cond) ∈ NW := List.mem_of_getElem? (i := 9) rfl
theorem wt132 : (.fieldLinkNest RX4 104 "FireEngines$House" "state" "I" "FireEngines" : Cond) ∈ lw_tbl := AT_1 132 rfl
theorem wn134 : (.fieldLinkNest RX4 121 "FireEngines$House" "heat" "I" "FireEngines" : Cond) ∈ NW := List.mem_of_getElem? (i := 10) rfl
theorem wt134 : (.fieldLinkNest RX4 121 "FireEngines$House" "heat" "I" "FireEngines" : Cond) ∈ lw_tbl := AT_1 134 rfl
theorem wn136 : (.fieldLinkNest RX4 151 "FireEngines$House" "came" "I" "FireEngines" : Cond) ∈ NW := List.mem_of_getElem? (i := 11) rfl
theorem wt136 : (.fieldLinkNest RX4 151 "FireEngines$House" "came" "I" "FireEngines" : Cond) ∈ lw_tbl := AT_1 136 rfl
theorem wn236 : (.fieldLinkNest RX4 128 "FireEngines$Pond" "cell" "I" "FireEngines" : Cond) ∈ NW := List.mem_of_getElem? (i := 12) rfl
theorem wt236 : (.fieldLinkNest RX4 128 "FireEngines$Pond" "cell" "I" "FireEngines" : Cond) ∈ lw_tbl := AT_1 236 rfl
theorem wn237 : (.fieldLinkNest RX5 192 "FireEngines$Pond" "cell" "I" "FireEngines" : Cond) ∈ NW := List.mem_of_getElem? (i := 13) rfl
theorem wt237 : (.fieldLinkNest RX5 192 "FireEngines$Pond" "cell" "I" "FireEngines" : Cond) ∈ lw_tbl := AT_1 237 rfl
theorem wn239 : (.fieldLinkNest RX4 110 "FireEngines$Pond" "water" "I" "FireEngines" : Cond) ∈ NW := List.mem_of_getElem? (i := 14) rfl
theorem wt239 : (.fieldLinkNest RX4 110 "FireEngines$Pond" "water" "I" "FireEngines" : Cond) ∈ lw_tbl := AT_1 239 rfl
theorem wn240 : (.fieldLinkNest RX5 167 "FireEngines$Pond" "water" "I" "FireEngines" : Cond) ∈ NW := List.mem_of_getElem? (i := 15) rfl
theorem wt240 : (.fieldLinkNest RX5 167 "FireEngines$Pond" "water" "I" "FireEngines" : Cond) ∈ lw_tbl := AT_2 0 rfl
theorem wn257 : (.fieldLinkNest RX4 73 "FireEngines$Engine" "cell" "I" "FireEngines" : Cond) ∈ NW := List.mem_of_getElem? (i := 16) rfl
theorem wt257 : (.fieldLinkNest RX4 73 "FireEngines$Engine" "cell" "I" "FireEngines" : Cond) ∈ lw_tbl := AT_2 17 rfl
theorem wn258 : (.fieldLinkNest RX5 130 "FireEngines$Engine" "cell" "I" "FireEngines" : Cond) ∈ NW := List.mem_of_getElem? (i := 17) rfl
theorem wt258 : (.fieldLinkNest RX5 130 "FireEngines$Engine" "cell" "I" "FireEngines" : Cond) ∈ lw_tbl := AT_2 18 rfl
theorem wn260 : (.fieldLinkNest RX4 76 "FireEngines$Engine" "horses" "I" "FireEngines" : Cond) ∈ NW := List.mem_of_getElem? (i := 18) rfl
theorem wt260 : (.fieldLinkNest RX4 76 "FireEngines$Engine" "horses" "I" "FireEngines" : Cond) ∈ lw_tbl := AT_2 20 rfl
theorem wn262 : (.fieldLinkNest RX4 79 "FireEngines$Engine" "power" "I" "FireEngines" : Cond) ∈ NW := List.mem_of_getElem? (i := 19) rfl
theorem wt262 : (.fieldLinkNest RX4 79 "FireEngines$Engine" "power" "I" "FireEngines" : Cond) ∈ lw_tbl := AT_2 22 rfl
theorem wn264 : (.fieldLinkNest RX4 82 "FireEngines$Engine" "coal" "I" "FireEngines" : Cond) ∈ NW := List.mem_of_getElem? (i := 20) rfl
theorem wt264 : (.fieldLinkNest RX4 82 "FireEngines$Engine" "coal" "I" "FireEngines" : Cond) ∈ lw_tbl := AT_2 24 rfl
theorem wn265 : (.fieldLinkNest RX5 123 "FireEngines$Engine" "coal" "I" "FireEngines" : Cond) ∈ NW := List.mem_of_getElem? (i := 21) rfl
theorem wt265 : (.fieldLinkNest RX5 123 "FireEngines$Engine" "coal" "I" "FireEngines" : Cond) ∈ lw_tbl := AT_2 25 rfl
theorem wn267 : (.fieldLinkNest RX4 85 "FireEngines$Engine" "steam" "I" "FireEngines" : Cond) ∈ NW := List.mem_of_getElem? (i := 22) rfl
theorem wt267 : (.fieldLinkNest RX4 85 "FireEngines$Engine" "steam" "I" "FireEngines" : Cond) ∈ lw_tbl := AT_2 27 rfl
theorem wn269 : (.fieldLinkNest RX4 88 "FireEngines$Engine" "minutesLeft" "I" "FireEngines" : Cond) ∈ NW := List.mem_of_getElem? (i := 23) rfl
theorem wt269 : (.fieldLinkNest RX4 88 "FireEngines$Engine" "minutesLeft" "I" "FireEngines" : Cond) ∈ lw_tbl := AT_2 29 rfl
theorem wn270 : (.fieldLinkNest RX5 142 "FireEngines$Engine" "minutesLeft" "I" "FireEngines" : Cond) ∈ NW := List.mem_of_getElem? (i := 24) rfl
theorem wt270 : (.fieldLinkNest RX5 142 "FireEngines$Engine" "minutesLeft" "I" "FireEngines" : Cond) ∈ lw_tbl := AT_2 30 rfl
theorem wn272 : (.fieldLinkNest RX4 113 "FireEngines$Engine" "goal" "I" "FireEngines" : Cond) ∈ NW := List.mem_of_getElem? (i := 25) rfl
theorem wt272 : (.fieldLinkNest RX4 113 "FireEngines$Engine" "goal" "I" "FireEngines" : Cond) ∈ lw_tbl := AT_2 32 rfl
theorem wn274 : (.fieldLinkNest RX4 91 "FireEngines$Engine" "hose" "I" "FireEngines" : Cond) ∈ NW := List.mem_of_getElem? (i := 26) rfl
theorem wt274 : (.fieldLinkNest RX4 91 "FireEngines$Engine" "hose" "I" "FireEngines" : Cond) ∈ lw_tbl := AT_2 34 rfl
theorem wn275 : (.fieldLinkNest RX5 152 "FireEngines$Engine" "hose" "I" "FireEngines" : Cond) ∈ NW := List.mem_of_getElem? (i := 27) rfl
theorem wt275 : (.fieldLinkNest RX5 152 "FireEngines$Engine" "hose" "I" "FireEngines" : Cond) ∈ lw_tbl := AT_2 35 rfl
theorem wn277 : (.fieldLinkNest RX4 154 "FireEngines$Engine" "came" "I" "FireEngines" : Cond) ∈ NW := List.mem_of_getElem? (i := 28) rfl
theorem wt277 : (.fieldLinkNest RX4 154 "FireEngines$Engine" "came" "I" "FireEngines" : Cond) ∈ lw_tbl := AT_2 37 rfl
theorem wn279 : (.fieldLinkNest RX4 98 "FireEngines$Engine" "gave" "I" "FireEngines" : Cond) ∈ NW := List.mem_of_getElem? (i := 29) rfl
theorem wt279 : (.fieldLinkNest RX4 98 "FireEngines$Engine" "gave" "I" "FireEngines" : Cond) ∈ lw_tbl := AT_2 39 rfl
theorem wn281 : (.fieldLinkNest RX4 155 "FireEngines$Engine" "asked" "Z" "FireEngines" : Cond) ∈ NW := List.mem_of_getElem? (i := 30) rfl
theorem wt281 : (.fieldLinkNest RX4 155 "FireEngines$Engine" "asked" "Z" "FireEngines" : Cond) ∈ lw_tbl := AT_2 41 rfl
theorem wn364 : (.methodLinkNest RX4 117 yX5_areNear "FireEngines" : Cond) ∈ NW := List.mem_of_getElem? (i := 31) rfl
theorem wt364 : (.methodLinkNest RX4 117 yX5_areNear "FireEngines" : Cond) ∈ lw_tbl := AT_2 124 rfl
theorem wn378 : (.methodLinkNest RX4 183 yX5_distance "FireEngines" : Cond) ∈ NW := List.mem_of_getElem? (i := 32) rfl
theorem wt378 : (.methodLinkNest RX4 183 yX5_distance "FireEngines" : Cond) ∈ lw_tbl := AT_2 138 rfl
theorem wn472 : (.castable "java/lang/IndexOutOfBoundsException" "java/lang/IndexOutOfBoundsException" : Cond) ∈ NW := List.mem_of_getElem? (i := 33) rfl
theorem wt472 : (.castable "java/lang/IndexOutOfBoundsException" "java/lang/IndexOutOfBoundsException" : Cond) ∈ lw_tbl := AT_2 232 rfl
theorem wn473 : (.declares ⟨"java/lang/RuntimeException", "<init>", "()V"⟩ : Cond) ∈ NW := List.mem_of_getElem? (i := 34) rfl
theorem wt473 : (.declares ⟨"java/lang/RuntimeException", "<init>", "()V"⟩ : Cond) ∈ lw_tbl := AT_2 233 rfl
theorem wn474 : (.declares ⟨"java/lang/RuntimeException", "<init>", "(Ljava/lang/String;)V"⟩ : Cond) ∈ NW := List.mem_of_getElem? (i := 35) rfl
theorem wt474 : (.declares ⟨"java/lang/RuntimeException", "<init>", "(Ljava/lang/String;)V"⟩ : Cond) ∈ lw_tbl := AT_2 234 rfl
theorem wn475 : (.declares ⟨"java/lang/Exception", "<init>", "()V"⟩ : Cond) ∈ NW := List.mem_of_getElem? (i := 36) rfl
theorem wt475 : (.declares ⟨"java/lang/Exception", "<init>", "()V"⟩ : Cond) ∈ lw_tbl := AT_2 235 rfl
theorem wn476 : (.declares ⟨"java/lang/Exception", "<init>", "(Ljava/lang/String;)V"⟩ : Cond) ∈ NW := List.mem_of_getElem? (i := 37) rfl
theorem wt476 : (.declares ⟨"java/lang/Exception", "<init>", "(Ljava/lang/String;)V"⟩ : Cond) ∈ lw_tbl := AT_2 236 rfl
theorem wn477 : (.declares ⟨"java/lang/Throwable", "<init>", "()V"⟩ : Cond) ∈ NW := List.mem_of_getElem? (i := 38) rfl
theorem wt477 : (.declares ⟨"java/lang/Throwable", "<init>", "()V"⟩ : Cond) ∈ lw_tbl := AT_2 237 rfl
theorem wn478 : (.declares ⟨"java/lang/Throwable", "<init>", "(Ljava/lang/String;)V"⟩ : Cond) ∈ NW := List.mem_of_getElem? (i := 39) rfl
theorem wt478 : (.declares ⟨"java/lang/Throwable", "<init>", "(Ljava/lang/String;)V"⟩ : Cond) ∈ lw_tbl := AT_2 238 rfl
theorem wn543 : (.castable "java/lang/IllegalArgumentException" "java/lang/IllegalArgumentException" : Cond) ∈ NW := List.mem_of_getElem? (i := 40) rfl
theorem wt543 : (.castable "java/lang/IllegalArgumentException" "java/lang/IllegalArgumentException" : Cond) ∈ lw_tbl := AT_3 63 rfl
theorem wn585 : (.castable "java/lang/IllegalStateException" "java/lang/IllegalStateException" : Cond) ∈ NW := List.mem_of_getElem? (i := 41) rfl
theorem wt585 : (.castable "java/lang/IllegalStateException" "java/lang/IllegalStateException" : Cond) ∈ lw_tbl := AT_3 105 rfl
theorem wn697 : (.methodLinkNest RX1 42 yX5_isOnMap "FireEngines" : Cond) ∈ NW := List.mem_of_getElem? (i := 42) rfl
theorem wt697 : (.methodLinkNest RX1 42 yX5_isOnMap "FireEngines" : Cond) ∈ lw_tbl := AT_3 217 rfl
theorem wn698 : (.methodLinkNest RX1 46 yX5_cellAt "FireEngines" : Cond) ∈ NW := List.mem_of_getElem? (i := 43) rfl
theorem wt698 : (.methodLinkNest RX1 46 yX5_cellAt "FireEngines" : Cond) ∈ lw_tbl := AT_3 218 rfl
theorem wn1036 : (.castable "[I" "java/lang/Cloneable" : Cond) ∈ NW := List.mem_of_getElem? (i := 44) rfl
theorem wt1036 : (.castable "[I" "java/lang/Cloneable" : Cond) ∈ lw_tbl := AT_5 76 rfl
theorem wn1065 : (.castable RX5 "java/lang/Object" : Cond) ∈ NW := List.mem_of_getElem? (i := 45) rfl
theorem wt1065 : (.castable RX5 "java/lang/Object" : Cond) ∈ lw_tbl := AT_5 105 rfl
theorem wn1066 : (.castable RX1 "java/lang/Object" : Cond) ∈ NW := List.mem_of_getElem? (i := 46) rfl
theorem wt1066 : (.castable RX1 "java/lang/Object" : Cond) ∈ lw_tbl := AT_5 106 rfl
theorem wn1067 : (.castable RX4 "java/lang/Object" : Cond) ∈ NW := List.mem_of_getElem? (i := 47) rfl
theorem wt1067 : (.castable RX4 "java/lang/Object" : Cond) ∈ lw_tbl := AT_5 107 rfl
theorem wn1068 : (.castable RJx4a65c "java/lang/Object" : Cond) ∈ NW := List.mem_of_getElem? (i := 48) rfl
theorem wt1068 : (.castable RJx4a65c "java/lang/Object" : Cond) ∈ lw_tbl := AT_5 108 rfl
theorem wn1069 : (.castable RX6 "java/lang/Object" : Cond) ∈ NW := List.mem_of_getElem? (i := 49) rfl
theorem wt1069 : (.castable RX6 "java/lang/Object" : Cond) ∈ lw_tbl := AT_5 109 rfl
theorem wn1070 : (.castable "java/lang/IndexOutOfBoundsException" "java/lang/Object" : Cond) ∈ NW := List.mem_of_getElem? (i := 50) rfl
theorem wt1070 : (.castable "java/lang/IndexOutOfBoundsException" "java/lang/Object" : Cond) ∈ lw_tbl := AT_5 110 rfl
theorem wn1071 : (.castable "java/lang/IllegalArgumentException" "java/lang/Object" : Cond) ∈ NW := List.mem_of_getElem? (i := 51) rfl
theorem wt1071 : (.castable "java/lang/IllegalArgumentException" "java/lang/Object" : Cond) ∈ lw_tbl := AT_5 111 rfl
theorem wn1072 : (.castable "java/lang/IllegalStateException" "java/lang/Object" : Cond) ∈ NW := List.mem_of_getElem? (i := 52) rfl
theorem wt1072 : (.castable "java/lang/IllegalStateException" "java/lang/Object" : Cond) ∈ lw_tbl := AT_5 112 rfl
theorem wn1073 : (.castable RX2 "java/lang/Object" : Cond) ∈ NW := List.mem_of_getElem? (i := 53) rfl
theorem wt1073 : (.castable RX2 "java/lang/Object" : Cond) ∈ lw_tbl := AT_5 113 rfl
theorem wn1074 : (.castable RX3 "java/lang/Object" : Cond) ∈ NW := List.mem_of_getElem? (i := 54) rfl
theorem wt1074 : (.castable RX3 "java/lang/Object" : Cond) ∈ lw_tbl := AT_5 114 rfl
theorem wn1075 : (.castable RX0 "java/lang/Object" : Cond) ∈ NW := List.mem_of_getElem? (i := 55) rfl
theorem wt1075 : (.castable RX0 "java/lang/Object" : Cond) ∈ lw_tbl := AT_5 115 rfl
theorem wn1076 : (.castable "java/lang/Throwable" "java/lang/Object" : Cond) ∈ NW := List.mem_of_getElem? (i := 56) rfl
theorem wt1076 : (.castable "java/lang/Throwable" "java/lang/Object" : Cond) ∈ lw_tbl := AT_5 116 rfl
theorem wn1077 : (.castable RJ0 "java/lang/Object" : Cond) ∈ NW := List.mem_of_getElem? (i := 57) rfl
theorem wt1077 : (.castable RJ0 "java/lang/Object" : Cond) ∈ lw_tbl := AT_5 117 rfl
theorem wn1080 : (.declares ⟨"java/lang/Object", "getClass", "()Ljava/lang/Class;"⟩ : Cond) ∈ NW := List.mem_of_getElem? (i := 58) rfl
theorem wt1080 : (.declares ⟨"java/lang/Object", "getClass", "()Ljava/lang/Class;"⟩ : Cond) ∈ lw_tbl := AT_5 120 rfl
theorem wn1081 : (.castable "[I" "java/lang/Object" : Cond) ∈ NW := List.mem_of_getElem? (i := 59) rfl
theorem wt1081 : (.castable "[I" "java/lang/Object" : Cond) ∈ lw_tbl := AT_5 121 rfl
theorem wn1082 : (.castable "[Ljava/lang/Object;" "java/lang/Object" : Cond) ∈ NW := List.mem_of_getElem? (i := 60) rfl
theorem wt1082 : (.castable "[Ljava/lang/Object;" "java/lang/Object" : Cond) ∈ lw_tbl := AT_5 122 rfl
theorem wn1083 : (.castable "[B" "java/lang/Object" : Cond) ∈ NW := List.mem_of_getElem? (i := 61) rfl
theorem wt1083 : (.castable "[B" "java/lang/Object" : Cond) ∈ lw_tbl := AT_5 123 rfl
theorem wn1084 : (.castable "[Z" "java/lang/Object" : Cond) ∈ NW := List.mem_of_getElem? (i := 62) rfl
theorem wt1084 : (.castable "[Z" "java/lang/Object" : Cond) ∈ lw_tbl := AT_5 124 rfl
theorem wn1085 : (.castable "[[I" "java/lang/Object" : Cond) ∈ NW := List.mem_of_getElem? (i := 63) rfl
theorem wt1085 : (.castable "[[I" "java/lang/Object" : Cond) ∈ lw_tbl := AT_5 125 rfl
theorem wn1086 : (.castable "[J" "java/lang/Object" : Cond) ∈ NW := List.mem_of_getElem? (i := 64) rfl
theorem wt1086 : (.castable "[J" "java/lang/Object" : Cond) ∈ lw_tbl := AT_5 126 rfl
theorem NW_sub : ∀ w ∈ NW, w ∈ lw_tbl := by
  intro w hw
  simp only [NW, List.mem_cons, List.not_mem_nil, or_false] at hw
  rcases hw with rfl | rfl | rfl | rfl | rfl | rfl | rfl | rfl | rfl | rfl | rfl | rfl | rfl | rfl | rfl | rfl | rfl | rfl | rfl | rfl | rfl | rfl | rfl | rfl | rfl | rfl | rfl | rfl | rfl | rfl | rfl | rfl | rfl | rfl | rfl | rfl | rfl | rfl | rfl | rfl | rfl | rfl | rfl | rfl | rfl | rfl | rfl | rfl | rfl | rfl | rfl | rfl | rfl | rfl | rfl | rfl | rfl | rfl | rfl | rfl | rfl | rfl | rfl | rfl | rfl
  · exact wt33
  · exact wt50
  · exact wt82
  · exact wt84
  · exact wt86
  · exact wt125
  · exact wt126
  · exact wt129
  · exact wt131
  · exact wt132
  · exact wt134
  · exact wt136
  · exact wt236
  · exact wt237
  · exact wt239
  · exact wt240
  · exact wt257
  · exact wt258
  · exact wt260
  · exact wt262
  · exact wt264
  · exact wt265
  · exact wt267
  · exact wt269
  · exact wt270
  · exact wt272
  · exact wt274
  · exact wt275
  · exact wt277
  · exact wt279
  · exact wt281
  · exact wt364
  · exact wt378
  · exact wt472
  · exact wt473
  · exact wt474
  · exact wt475
  · exact wt476
  · exact wt477
  · exact wt478
  · exact wt543
  · exact wt585
  · exact wt697
  · exact wt698
  · exact wt1036
  · exact wt1065
  · exact wt1066
  · exact wt1067
  · exact wt1068
  · exact wt1069
  · exact wt1070
  · exact wt1071
  · exact wt1072
  · exact wt1073
  · exact wt1074
  · exact wt1075
  · exact wt1076
  · exact wt1077
  · exact wt1080
  · exact wt1081
  · exact wt1082
  · exact wt1083
  · exact wt1084
  · exact wt1085
  · exact wt1086
theorem wt511 : (.stringRef RX5 203 "no such cell" : Cond) ∈ lw_tbl := AT_3 31 rfl
theorem wt550 : (.stringRef RX5 209 "a number is too small or too great" : Cond) ∈ lw_tbl := AT_3 70 rfl
theorem wt592 : (.stringRef RX5 214 "not possible now" : Cond) ∈ lw_tbl := AT_3 112 rfl
theorem wt625 : (.stringRef RX5 196 "no such house" : Cond) ∈ lw_tbl := AT_3 145 rfl
theorem wt640 : (.stringRef RX5 205 "no such question" : Cond) ∈ lw_tbl := AT_3 160 rfl
theorem wt673 : (.stringRef RX5 198 "no such engine" : Cond) ∈ lw_tbl := AT_3 193 rfl
theorem wt747 : (.stringRef RX5 162 "no such pond" : Cond) ∈ lw_tbl := AT_4 27 rfl
end
section
/-! THE WORLD AS A MAP: from labels (numbers of our own) to cells; ad says where a label's cell lies. Rows of the kit turned to it. -/
abbrev fM : Type := Nat → Option va_E
/-- what is fixed in a run: classes' ids and slots, the array classes, where our cells begin, the empty list's array, the texts -/
abbrev fG : Type := va_G × (ClassId × ClassId × ClassId × ClassId × ClassId) × (Nat × Nat) × (Nat → Nat)
abbrev gD (g : fG) : va_G := g.1
abbrev gI (g : fG) : ClassId := g.2.1.1
abbrev gZ (g : fG) : ClassId := g.2.1.2.1
abbrev gO (g : fG) : ClassId := g.2.1.2.2.1
abbrev gQ (g : fG) : ClassId := g.2.1.2.2.2.1
abbrev gJ (g : fG) : ClassId := g.2.1.2.2.2.2
abbrev gB (g : fG) : Nat := g.2.2.1.1
abbrev gE (g : fG) : Nat := g.2.2.1.2
abbrev gS (g : fG) : Nat → Nat := g.2.2.2
def fA (g : fG) : Nat → Prop := fun q => gB g ≤ q
abbrev fT (g : fG) : List (ClassId × FieldType) := [(gI g, .int), (gZ g, .boolean), (gO g, .object "java/lang/Object"), (gQ g, .array .int), (gJ g, .long)]
def fU (M : fM) (l : Nat) (e : va_E) : fM := fun k => if k = l then some e else M k
def fV (ad : Nat → Nat) (l q : Nat) : Nat → Nat := fun k => if k = l then q else ad k
theorem fU_s {M : fM} {l : Nat} {e : va_E} : fU M l e l = some e := if_pos rfl
theorem fU_n {M : fM} {l k : Nat} {e : va_E} (h : k ≠ l) : fU M l e k = M k := if_neg h
theorem fV_s {ad : Nat → Nat} {l q : Nat} : fV ad l q l = q := if_pos rfl
theorem fV_n {ad : Nat → Nat} {l q k : Nat} (h : k ≠ l) : fV ad l q k = ad k := if_neg h
theorem fU_U {M : fM} {l : Nat} {e e' : va_E} : fU (fU M l e) l e' = fU M l e' := by funext k; unfold fU; by_cases h : k = l <;> simp [h]
/-- the heap holds the map -/
def fh (g : fG) (ad : Nat → Nat) (M : fM) (H : Heap) : Prop := gB g ≤ H.size ∧ (∀ l, M l ≠ none → l < 4096) ∧ (∀ l e, M l = some e → gB g ≤ ad l ∧ va_at (gD g) vwCl (ad l, e) H) ∧ ∀ l l', M l ≠ none → M l' ≠ none → ad l = ad l' → l = l'
/-- the map as a list of cells, for the kit's rows -/
def fwl (ad : Nat → Nat) (M : fM) : va_W := (List.range 4096).filterMap (fun l => (M l).map (fun e => (ad l, e)))
theorem fwl_mem {ad : Nat → Nat} {M : fM} {q : Nat × va_E} : q ∈ fwl ad M ↔ ∃ l, l < 4096 ∧ M l = some q.2 ∧ ad l = q.1 := by
  unfold fwl
  rw [List.mem_filterMap]
  constructor
  · rintro ⟨l, hl, h⟩
    cases hM : M l with
    | none => rw [hM] at h; cases h
    | some e =>
      rw [hM] at h
      cases h
      exact ⟨l, List.mem_range.mp hl, hM, rfl⟩
  · rintro ⟨l, hl, hM, ha⟩
    refine ⟨l, List.mem_range.mpr hl, ?_⟩
    rw [hM, ha]
    rfl
theorem fwl_nd {ad : Nat → Nat} {M : fM} (inj : ∀ l l', M l ≠ none → M l' ≠ none → ad l = ad l' → l = l') : ((fwl ad M).map (fun q => q.1)).Nodup := by
  unfold fwl
  rw [List.map_filterMap]
  refine List.Pairwise.filterMap (R := fun a b => a ≠ b) _ ?_ List.nodup_range
  intro a a' hne b hb b' hb' he
  cases hM : M a with
  | none => simp [hM] at hb
  | some e =>
    cases hM' : M a' with
    | none => simp [hM'] at hb'
    | some e' =>
      simp [hM] at hb
      simp [hM'] at hb'
      exact hne (inj a a' (by simp [hM]) (by simp [hM']) (by rw [hb, hb', he]))
theorem fh_P {g : fG} {ad : Nat → Nat} {M : fM} {H : Heap} (h : fh g ad M H) : va_P (gD g) vwCl (fwl ad M) H := by
  intro k q hk
  obtain ⟨l, -, h2, h3⟩ := fwl_mem.mp (List.mem_of_getElem? hk)
  have := (h.2.2.1 l q.2 h2).2
  rw [h3] at this
  exact this
theorem fh_D {g : fG} {ad : Nat → Nat} {M : fM} {H : Heap} (h : fh g ad M H) : va_D (fA g) (fwl ad M) := by
  refine ⟨fun i j p q hi hj hpq => ?_, fun k q hk => ?_⟩
  · have nd := fwl_nd (ad := ad) h.2.2.2
    have li : i < ((fwl ad M).map (fun q => q.1)).length := by rw [List.length_map]; exact (List.getElem?_eq_some_iff.mp hi).1
    refine (List.getElem?_inj li nd).mp ?_
    rw [List.getElem?_map, List.getElem?_map, hi, hj]
    simp [hpq]
  · obtain ⟨l, -, h2, h3⟩ := fwl_mem.mp (List.mem_of_getElem? hk)
    have := (h.2.2.1 l q.2 h2).1
    rw [h3] at this
    exact this
theorem fh_k {g : fG} {ad : Nat → Nat} {M : fM} {H : Heap} {l : Nat} {e : va_E} (h : fh g ad M H) (hl : M l = some e) : ∃ k : Nat, (fwl ad M)[k]? = some (ad l, e) :=
  List.getElem?_of_mem (fwl_mem.mpr ⟨l, h.2.1 l (by rw [hl]; exact fun z => by cases z), hl, rfl⟩)
/-- a list of cells that covers the new map -/
theorem fh_of {g : fG} {ad : Nat → Nat} {M : fM} {H : Heap} {ws : va_W} (hb : gB g ≤ H.size) (hP : va_P (gD g) vwCl ws H) (hD : va_D (fA g) ws) (h4 : ∀ l, M l ≠ none → l < 4096) (hm : ∀ l e, M l = some e → (ad l, e) ∈ ws) (inj : ∀ l l', M l ≠ none → M l' ≠ none → ad l = ad l' → l = l') : fh g ad M H := by
  refine ⟨hb, h4, fun l e hl => ?_, inj⟩
  obtain ⟨k, hk⟩ := List.getElem?_of_mem (hm l e hl)
  exact ⟨hD.2 k _ hk, hP k _ hk⟩
theorem fh_set {g : fG} {ad : Nat → Nat} {M : fM} {H H1 : Heap} {k l : Nat} {e e' : va_E} (h : fh g ad M H) (hl : M l = some e) (hk : (fwl ad M)[k]? = some (ad l, e)) (hz : gB g ≤ H1.size) (hP : va_P (gD g) vwCl ((fwl ad M).set k (ad l, e')) H1) (hD : va_D (fA g) ((fwl ad M).set k (ad l, e'))) : fh g ad (fU M l e') H1 := by
  have key : ∀ x, fU M l e' x ≠ none → M x ≠ none := by
    intro x hx
    by_cases hxl : x = l
    · rw [hxl, hl]; exact fun z => by cases z
    · rwa [fU_n hxl] at hx
  have lk := (List.getElem?_eq_some_iff.mp hk).1
  refine fh_of hz hP hD (fun x hx => h.2.1 x (key x hx)) (fun x e9 hx => ?_) (fun x y hx hy => h.2.2.2 x y (key x hx) (key y hy))
  by_cases hxl : x = l
  · subst hxl
    rw [fU_s] at hx
    cases hx
    exact List.mem_of_getElem? (List.getElem?_set_self lk)
  · rw [fU_n hxl] at hx
    obtain ⟨j, hj⟩ := fh_k h hx
    have hjk : j ≠ k := by
      rintro rfl
      rw [hj] at hk
      exact hxl (h.2.2.2 x l (by rw [hx]; exact fun z => by cases z) (by rw [hl]; exact fun z => by cases z) (congrArg Prod.fst (Option.some.inj hk)))
    refine List.mem_of_getElem? (i := j) ?_
    rw [List.getElem?_set_ne (Ne.symm hjk)]
    exact hj
theorem fh_push {g : fG} {ad : Nat → Nat} {M : fM} {H H1 : Heap} {l q : Nat} {e : va_E} (h : fh g ad M H) (h4 : l < 4096) (hz : gB g ≤ H1.size) (hP : va_P (gD g) vwCl (fwl ad M ++ [(q, e)]) H1) (hD : va_D (fA g) (fwl ad M ++ [(q, e)])) : fh g (fV ad l q) (fU M l e) H1 := by
  have fresh : ∀ x, M x ≠ none → ad x ≠ q := by
    intro x hx hq
    cases hM : M x with
    | none => exact hx hM
    | some ex =>
      obtain ⟨j, hj⟩ := fh_k h hM
      have lj := (List.getElem?_eq_some_iff.mp hj).1
      have a1 : (fwl ad M ++ [(q, e)])[j]? = some (ad x, ex) := by rw [List.getElem?_append_left lj]; exact hj
      have a2 : (fwl ad M ++ [(q, e)])[(fwl ad M).length]? = some (q, e) := by rw [List.getElem?_append_right (Nat.le_refl _), Nat.sub_self]; rfl
      have := hD.1 _ _ _ _ a1 a2 hq
      omega
  have at' : ∀ x, x ≠ l → fU M l e x = M x ∧ fV ad l q x = ad x := fun x hx => ⟨fU_n hx, fV_n hx⟩
  refine fh_of hz hP hD (fun x hx => ?_) (fun x e9 hx => ?_) (fun x y hx hy hxy => ?_)
  · by_cases hxl : x = l
    · rw [hxl]; exact h4
    · rw [(at' x hxl).1] at hx
      exact h.2.1 x hx
  · by_cases hxl : x = l
    · subst hxl
      rw [fU_s] at hx
      cases hx
      rw [fV_s]
      exact List.mem_append_right _ List.mem_cons_self
    · rw [(at' x hxl).1] at hx
      rw [(at' x hxl).2]
      exact List.mem_append_left _ (fwl_mem.mpr ⟨x, h.2.1 x (by rw [hx]; exact fun z => by cases z), hx, rfl⟩)
  · by_cases hxl : x = l <;> by_cases hyl : y = l
    · rw [hxl, hyl]
    · rw [hxl, fV_s, (at' y hyl).2] at hxy
      rw [(at' y hyl).1] at hy
      exact absurd hxy.symm (fresh y hy)
    · rw [hyl, fV_s, (at' x hxl).2] at hxy
      rw [(at' x hxl).1] at hx
      exact absurd hxy (fresh x hx)
    · rw [(at' x hxl).1] at hx
      rw [(at' y hyl).1] at hy
      rw [(at' x hxl).2, (at' y hyl).2] at hxy
      exact h.2.2.2 x y hx hy hxy
theorem fh_less {g : fG} {ad : Nat → Nat} {M M' : fM} {H : Heap} (h : fh g ad M H) (hs : ∀ l e, M' l = some e → M l = some e) : fh g ad M' H := by
  have key : ∀ x, M' x ≠ none → M x ≠ none := by
    intro x hx
    cases hM : M' x with
    | none => exact absurd hM hx
    | some e => rw [hs x e hM]; exact fun z => by cases z
  exact ⟨h.1, fun x hx => h.2.1 x (key x hx), fun l e hl => h.2.2.1 l e (hs l e hl), fun x y hx hy => h.2.2.2 x y (key x hx) (key y hy)⟩
/-! what the tables say, and the statics that nobody writes -/
def nestW : Cond → Bool
  | .fieldLinkNest .. => true
  | .methodLinkNest .. => true
  | .castable .. => true
  | .declares .. => true
  | _ => false
theorem nestW_warm {w : Cond} (h : nestW w = true) {s U : State} (hW : s.WarmedH U.vm) (hZ : va_Nw w s) : va_Nw w U := by
  cases w <;> first
    | (simp [nestW] at h; done)
    | exact va_Nw.warmF hW hZ
    | exact va_Nw.warmM hW hZ
    | exact va_Nw.warmC hW hZ
    | exact va_Nw.warmD hW hZ
theorem nestW_tab {w : Cond} (h : nestW w = true) : w.onTables = true := by
  cases w <;> first | (simp [nestW] at h; done) | rfl
theorem NW_ok : ∀ w ∈ NW, nestW w = true := by decide
abbrev fStrs : List (Nat × String) := [(203, "no such cell"), (209, "a number is too small or too great"), (214, "not possible now"), (196, "no such house"), (205, "no such question"), (198, "no such engine"), (162, "no such pond")]
def fK (g : fG) (U : State) : Prop := va_K (gD g) vwCl (fT g) U ∧ (∀ w ∈ NW, va_Nw w U) ∧ ∀ q ∈ fStrs, vk_R RX5 q.1 q.2 (gS g q.1) U
theorem fK_warm {g : fG} {s U : State} (hW : s.WarmedH U.vm) (h : fK g s) : fK g U :=
  ⟨va_K.moved hW.alike h.1, fun w hw => nestW_warm (NW_ok w hw) hW (h.2.1 w hw), fun q hq => vk_R.warm hW (h.2.2 q hq)⟩
theorem fK_same {g : fG} {s U : State} (hv : U.vm = s.vm) (h : fK g s) : fK g U :=
  ⟨va_K.moved (by rw [hv]; exact Vm.Alike.refl _) h.1, fun w hw => va_Nw.same (nestW_tab (NW_ok w hw)) hv.symm (h.2.1 w hw), fun q hq => vk_R.same hv (h.2.2 q hq)⟩
def fz (g : fG) (U : State) (H : Heap) : Prop := gB g ≤ H.size ∧ va_Z "java/util/ArrayList" "DEFAULTCAPACITY_EMPTY_ELEMENTDATA" "[Ljava/lang/Object;" (.ref (gE g)) (fA g) U H ∧ va_T (.object "java/lang/Object") (gE g) 0 (fun _ => .null) (fA g) U H ∧ vx_Zq Bundle.tN "UNASSIGNED_STACK" Bundle.steD (fA g) U H ∧ vx_Zq Bundle.tN "SUPPRESSED_SENTINEL" Bundle.listD (fA g) U H
theorem fz_moved {g : fG} {u U : State} {H : Heap} (hvm : u.vm.Alike U.vm) (h : fz g u H) : fz g U H := ⟨h.1, va_Z.moved hvm h.2.1, va_T.moved hvm h.2.2.1, vx_Zq.moved hvm h.2.2.2.1, vx_Zq.moved hvm h.2.2.2.2⟩
theorem fz_kept {g : fG} {U : State} {H H1 : Heap} (h : fz g U H) (hz : H.size ≤ H1.size) (hq : ∀ a : Nat, a < H.size → ¬ fA g a → H1[a]? = H[a]?) : fz g U H1 := ⟨Nat.le_trans h.1 hz, va_Z.kept h.2.1 hq, va_T.kept h.2.2.1 hq, vx_Zq.kept h.2.2.2.1 hq, vx_Zq.kept h.2.2.2.2 hq⟩
def fS (g : fG) (ad : Nat → Nat) (M : fM) (U : State) : Prop := fK g U ∧ fz g U U.heap ∧ fh g ad M U.heap
theorem fS_blind {g : fG} {ad : Nat → Nat} {M : fM} {av : List Value} : FrameBlind (va_Pc av (fS g ad M)) := by
  intro a U g9 mk h
  exact ⟨h.1, fK_same (s := U) (U := U.calling g9 mk a) rfl h.2.1, fz_moved (u := U) (U := U.calling g9 mk a) (Vm.Alike.refl U.vm) h.2.2.1, h.2.2.2⟩
/-- what holds of the machine and the tables all through a body -/
def fX (p : Program) (s : State) (m : MethodId) (args : Array Value) (meth : Method) (c : Code) (cc : ByteArray) (nL : Nat) (ret : Option FieldType) (own : String) (g : fG) : Prop :=
  p.tables.exec = Jvm.exec ∧ c.code = cc ∧ c.maxLocals = nL ∧ s.vm.findClass own = some m.cls ∧ (∀ w ∈ AL, w.before args s = true) ∧ fK g s ∧ fz g s s.heap ∧ meth.sig.returnType = ret ∧ meth.locks = false
/-- .. and of the world at a point of it -/
def fw (g : fG) (ad : Nat → Nat) (M : fM) (s : State) (H : Heap) (locs : List Loc) : Prop := fh g ad M H ∧ va_S (fA g) s.heap H locs
theorem fw_A {g : fG} {s : State} (h : fz g s s.heap) : ∀ q, s.heap.size ≤ q → fA g q := fun _ hq => Nat.le_trans h.1 hq
theorem fw_less {g : fG} {ad : Nat → Nat} {M M' : fM} {s : State} {H : Heap} {locs : List Loc} (h : fw g ad M s H locs) (hs : ∀ l e, M' l = some e → M l = some e) : fw g ad M' s H locs := ⟨fh_less h.1 hs, h.2⟩
abbrev fWs (y : MethodName) (cc : ByteArray) (maxL : Nat) (ret : Option FieldType) : List Cond := .code y cc maxL ret :: AL
abbrev fR (fr lo mc ms : Nat) : Room := { frames := fr, cells := mc, slots := ms, locals := lo }
theorem f_good {ws : List Cond} (h : ∀ w ∈ ws, w ∈ AL) : GoodIn AL ws := fun w hw => ⟨h w hw, good_of_word (AL_good w (h w hw))⟩
/-- a method's contract, out of the walk of its body -/
theorem f_body {l : Launch} {g : fG} {y : MethodName} {own : String} {cc : ByteArray} {maxL : Nat} {ret : Option FieldType} {fr lo mc ms : Nat} {ad : Nat → Nat} {M : fM} {av : List Value} {Qc : Array Value → State → Outcome → State → Prop} {free : Addr → Prop}
    (hy : plainName y.cls = true) (ho : y.cls = own) (hn : (lg_sl av).length ≤ maxL)
    (body : ∀ (p : Program) (e : Env) (s : State) (m : MethodId) (args : Array Value) (below : List Frame) (meth : Method) (c : Code) (ls : Array Slot), fX p s m args meth c cc maxL ret own g → fw g ad M s s.heap [] → (y.name = "<init>" → meth.name = "<init>") → lv_has ls maxL (lv_args 0 av) →
      W p l e (fR fr lo mc ms) s m args below meth c s.heap [] 0 0 (MQ below Qc args s mc ms free) (F0 m 0 ls [])) :
    Met l y (fWs y cc maxL ret) (fR fr lo mc ms) (va_Pc av (fS g ad M)) Qc mc ms free := by
  refine Met.ofW (cc := cc) (maxL := maxL) (ret := ret) hy rfl ?_
  intro p e s m args below meth c s₁ B hml hv
  obtain ⟨rfl, hK, hz, hh⟩ := hv
  have hts := atoms_spec (ws := fWs y cc maxL ret) B.pre
  have hown : s.vm.findClass y.cls = some m.cls := findClass_of_methodNamed B.named
  have hl := lv_entry av hn
  rw [lg_entry_eq]
  exact body p e s m _ below meth c _ ⟨B.exec, B.bytes, hml, by rw [← ho]; exact hown, fun w hw => hts w (List.mem_cons_of_mem _ hw), hK, hz, B.returns, B.notSynchronized⟩ ⟨hh, va_S.rf⟩ (fun h => (name_of_methodNamed B.named B.method).1.trans h) hl
section FWALK
variable {p : Program} {l : Launch} {e : Env} {R : Room} {s : State} {m : MethodId} {args : Array Value} {below : List Frame} {meth : Method} {c : Code} {H : Heap} {locs : List Loc} {cells slots : Nat} {Q : State → Prop}
variable {cc : ByteArray} {nL : Nat} {ret : Option FieldType} {own : String} {g : fG} {ad : Nat → Nat} {M : fM} {pc : Nat} {ls : Array Slot} {rest : List Value} {lb q9 : Nat}
/-- the class's words, once a class -/
def fcl (ci : Nat) (C : String) (T : u_T) (N : Nat) (ty : Nat → FieldType) : Prop := vwCl[ci]? = some (C, T, N) ∧ (∀ w ∈ u_ws C T N, w ∈ AL) ∧ (∀ k, k < N → parseFieldDescriptor (T k).2.2.1 = some (ty k)) ∧ (∀ a, a < N → ∀ b, b < N → a ≠ b → (T a).2.1 ≠ (T b).2.1)
theorem f_single {D : va_G} {cl : List vw_C} {q : Nat × va_E} (h : va_at D cl q H) : va_P D cl [q] H := by
  intro k q' hk
  have hz : k < 1 := (List.getElem?_eq_some_iff.mp hk).1
  rw [show k = 0 by omega] at hk
  cases hk
  exact h
theorem f_get (X : fX p s m args meth c cc nL ret own g) (hw : fw g ad M s H locs) {ci index : Nat} {C : String} {T : u_T} {N : Nat} {ty : Nat → FieldType} {fs : List Value} (hM : M lb = some (.inr (ci, fs))) (hc : fcl ci C T N ty) (k : Nat) (hk : k < N)
    (hlink : Cond.fieldLink own index C (T k).2.1 (T k).2.2.1 ∈ AL) (ho : (T k).1 = C) {v : Value} (hv : fs[k]? = some v) (hdg : decode cc pc = .ok (.getfield index, 3))
    (kk : W p l e R s m args below meth c H locs cells slots Q (F0 m (pc + 3) ls (v :: rest))) : W p l e R s m args below meth c H locs cells slots Q (F0 m pc ls (.ref (ad lb) :: rest)) := by
  obtain ⟨hx, hb, hml, hown, hts, hK, hz, hr, hlk⟩ := X
  exact va_get hx hb hts hc.2.1 hown hK.1 (f_single (hw.1.2.2.1 lb _ hM).2) 0 rfl hc.1 k hk (hts _ hlink) (fun _ h => by rw [ho] at h; exact h) hv hdg kk
theorem f_getN (X : fX p s m args meth c cc nL ret own g) (hw : fw g ad M s H locs) {ci index : Nat} {C host : String} {T : u_T} {N : Nat} {ty : Nat → FieldType} {fs : List Value} (hM : M lb = some (.inr (ci, fs))) (hc : fcl ci C T N ty) (k : Nat) (hk : k < N)
    (hlink : Cond.fieldLinkNest own index C (T k).2.1 (T k).2.2.1 host ∈ NW) (ho : (T k).1 = C) {v : Value} (hv : fs[k]? = some v) (hdg : decode cc pc = .ok (.getfield index, 3))
    (kk : W p l e R s m args below meth c H locs cells slots Q (F0 m (pc + 3) ls (v :: rest))) : W p l e R s m args below meth c H locs cells slots Q (F0 m pc ls (.ref (ad lb) :: rest)) := by
  obtain ⟨hx, hb, hml, hown, hts, hK, hz, hr, hlk⟩ := X
  exact va_getN hx hb hts hc.2.1 hown hK.1 (f_single (hw.1.2.2.1 lb _ hM).2) 0 rfl hc.1 k hk (va_Nw.use rfl (hK.2.1 _ hlink)) (fun _ h => by rw [ho] at h; exact h) hv hdg kk
theorem f_put (X : fX p s m args meth c cc nL ret own g) (hw : fw g ad M s H locs) {ci index : Nat} {C : String} {T : u_T} {N : Nat} {ty : Nat → FieldType} {fs : List Value} (hM : M lb = some (.inr (ci, fs))) (hc : fcl ci C T N ty) (k : Nat) (hk : k < N)
    (hlink : Cond.fieldLink own index C (T k).2.1 (T k).2.2.1 ∈ AL) (ho : (T k).1 = C) (hfin : (T k).2.2.2 = false) {v : Value} (hn : narrow (ty k) v = v) (hfit : fits (ty k) v = true) (hl : k < fs.length) (hdg : decode cc pc = .ok (.putfield index, 3))
    (kk : ∀ (H1 : Heap) (locs1 : List Loc), fw g ad (fU M lb (.inr (ci, fs.set k v))) s H1 locs1 → W p l e R s m args below meth c H1 locs1 cells slots Q (F0 m (pc + 3) ls rest)) : W p l e R s m args below meth c H locs cells slots Q (F0 m pc ls (v :: .ref (ad lb) :: rest)) := by
  obtain ⟨hx, hb, hml, hown, hts, hK, hz, hr, hlk⟩ := X
  obtain ⟨j, hj⟩ := fh_k hw.1 hM
  exact va_put hx hb hts hc.2.1 ty hc.2.2.1 hc.2.2.2 hown hK.1 (fh_P hw.1) (fh_D hw.1) hw.2 j hj hc.1 k hk (hts _ hlink) (fun _ h => by rw [ho] at h; exact h) hfin (hc.2.2.1 k hk) hn hfit hl hdg (fun H1 locs1 hP hD hS => kk H1 locs1 ⟨fh_set hw.1 hM hj (Nat.le_trans hz.1 hS.1) hP hD, hS⟩)
theorem f_putN (X : fX p s m args meth c cc nL ret own g) (hw : fw g ad M s H locs) {ci index : Nat} {C host : String} {T : u_T} {N : Nat} {ty : Nat → FieldType} {fs : List Value} (hM : M lb = some (.inr (ci, fs))) (hc : fcl ci C T N ty) (k : Nat) (hk : k < N)
    (hlink : Cond.fieldLinkNest own index C (T k).2.1 (T k).2.2.1 host ∈ NW) (ho : (T k).1 = C) (hfin : (T k).2.2.2 = false) {v : Value} (hn : narrow (ty k) v = v) (hfit : fits (ty k) v = true) (hl : k < fs.length) (hdg : decode cc pc = .ok (.putfield index, 3))
    (kk : ∀ (H1 : Heap) (locs1 : List Loc), fw g ad (fU M lb (.inr (ci, fs.set k v))) s H1 locs1 → W p l e R s m args below meth c H1 locs1 cells slots Q (F0 m (pc + 3) ls rest)) : W p l e R s m args below meth c H locs cells slots Q (F0 m pc ls (v :: .ref (ad lb) :: rest)) := by
  obtain ⟨hx, hb, hml, hown, hts, hK, hz, hr, hlk⟩ := X
  obtain ⟨j, hj⟩ := fh_k hw.1 hM
  exact va_putN hx hb hts hc.2.1 ty hc.2.2.1 hc.2.2.2 hown hK.1 (fh_P hw.1) (fh_D hw.1) hw.2 j hj hc.1 k hk (va_Nw.use rfl (hK.2.1 _ hlink)) (fun _ h => by rw [ho] at h; exact h) hfin (hc.2.2.1 k hk) hn hfit hl hdg (fun H1 locs1 hP hD hS => kk H1 locs1 ⟨fh_set hw.1 hM hj (Nat.le_trans hz.1 hS.1) hP hD, hS⟩)
theorem f_putF (X : fX p s m args meth c cc nL ret own g) (hw : fw g ad M s H locs) {ci index : Nat} {C : String} {T : u_T} {N : Nat} {ty : Nat → FieldType} {fs : List Value} (hM : M lb = some (.inr (ci, fs))) (hc : fcl ci C T N ty) (k : Nat) (hk : k < N)
    (hlink : Cond.fieldLink own index C (T k).2.1 (T k).2.2.1 ∈ AL) (ho : (T k).1 = C) (hfin : (T k).2.2.2 = true) (hin2 : meth.name = "<init>") (hdecl : (T k).1 = own) {v : Value} (hn : narrow (ty k) v = v) (hfit : fits (ty k) v = true) (hl : k < fs.length) (hdg : decode cc pc = .ok (.putfield index, 3))
    (kk : ∀ (H1 : Heap) (locs1 : List Loc), fw g ad (fU M lb (.inr (ci, fs.set k v))) s H1 locs1 → W p l e R s m args below meth c H1 locs1 cells slots Q (F0 m (pc + 3) ls rest)) : W p l e R s m args below meth c H locs cells slots Q (F0 m pc ls (v :: .ref (ad lb) :: rest)) := by
  obtain ⟨hx, hb, hml, hown, hts, hK, hz, hr, hlk⟩ := X
  obtain ⟨j, hj⟩ := fh_k hw.1 hM
  exact va_putF hx hb hts hc.2.1 ty hc.2.2.1 hc.2.2.2 hown hK.1 (fh_P hw.1) (fh_D hw.1) hw.2 j hj hc.1 k hk (hts _ hlink) (fun _ h => by rw [ho] at h; exact h) hfin hin2 hdecl (hc.2.2.1 k hk) hn hfit hl hdg (fun H1 locs1 hP hD hS => kk H1 locs1 ⟨fh_set hw.1 hM hj (Nat.le_trans hz.1 hS.1) hP hD, hS⟩)
theorem f_iald (X : fX p s m args meth c cc nL ret own g) (hw : fw g ad M s H locs) {n : Nat} {f : Nat → Int32} (hM : M lb = some (.inl (gI g, n, .inl f))) {i : Int32} (hin : vp_in i n) (hdg : decode cc pc = .ok (.iaload, 1))
    (kk : W p l e R s m args below meth c H locs cells slots Q (F0 m (pc + 1) ls (.int (f i.toNatClampNeg) :: rest))) : W p l e R s m args below meth c H locs cells slots Q (F0 m pc ls (.int i :: .ref (ad lb) :: rest)) := by
  obtain ⟨hx, hb, hml, hown, hts, hK, hz, hr, hlk⟩ := X
  exact va_iald hx hb hK.1 (f_single (hw.1.2.2.1 lb _ hM).2) 0 0 rfl rfl hin hdg kk
theorem f_zald (X : fX p s m args meth c cc nL ret own g) (hw : fw g ad M s H locs) {n : Nat} {f : Nat → Int32} (hM : M lb = some (.inl (gZ g, n, .inl f))) {i : Int32} (hin : vp_in i n) (hdg : decode cc pc = .ok (.baload, 1))
    (kk : W p l e R s m args below meth c H locs cells slots Q (F0 m (pc + 1) ls (.int (f i.toNatClampNeg) :: rest))) : W p l e R s m args below meth c H locs cells slots Q (F0 m pc ls (.int i :: .ref (ad lb) :: rest)) := by
  obtain ⟨hx, hb, hml, hown, hts, hK, hz, hr, hlk⟩ := X
  exact va_zald hx hb hK.1 (f_single (hw.1.2.2.1 lb _ hM).2) 0 1 rfl rfl hin hdg kk
theorem f_lald (X : fX p s m args meth c cc nL ret own g) (hw : fw g ad M s H locs) {n : Nat} {f : Nat → Int64} (hM : M lb = some (.inl (gJ g, n, .inr (.inl f)))) {i : Int32} (hin : vp_in i n) (hdg : decode cc pc = .ok (.laload, 1))
    (kk : W p l e R s m args below meth c H locs cells slots Q (F0 m (pc + 1) ls (.long (f i.toNatClampNeg) :: rest))) : W p l e R s m args below meth c H locs cells slots Q (F0 m pc ls (.int i :: .ref (ad lb) :: rest)) := by
  obtain ⟨hx, hb, hml, hown, hts, hK, hz, hr, hlk⟩ := X
  exact va_lald hx hb hK.1 (f_single (hw.1.2.2.1 lb _ hM).2) 0 4 rfl rfl hin hdg kk
theorem f_alen (X : fX p s m args meth c cc nL ret own g) (hw : fw g ad M s H locs) {x : vp_A} {cA : ClassId} {ty : FieldType} (t0 : Nat) (hM : M lb = some (.inl (cA, x))) (ht : (fT g)[t0]? = some (cA, ty)) (hdg : decode cc pc = .ok (.arraylength, 1))
    (kk : W p l e R s m args below meth c H locs cells slots Q (F0 m (pc + 1) ls (.int (nI x.1) :: rest))) : W p l e R s m args below meth c H locs cells slots Q (F0 m pc ls (.ref (ad lb) :: rest)) := by
  obtain ⟨hx, hb, hml, hown, hts, hK, hz, hr, hlk⟩ := X
  exact va_alen hx hb hK.1 (f_single (hw.1.2.2.1 lb _ hM).2) 0 t0 rfl ht rfl hdg kk
theorem f_iast (X : fX p s m args meth c cc nL ret own g) (hw : fw g ad M s H locs) {n : Nat} {f : Nat → Int32} (hM : M lb = some (.inl (gI g, n, .inl f))) {i : Int32} {x : Int32} (hin : vp_in i n) (hdg : decode cc pc = .ok (.iastore, 1))
    (kk : ∀ (H1 : Heap) (locs1 : List Loc), fw g ad (fU M lb (.inl (gI g, n, .inl (upd f i.toNatClampNeg x)))) s H1 locs1 → W p l e R s m args below meth c H1 locs1 cells slots Q (F0 m (pc + 1) ls rest)) : W p l e R s m args below meth c H locs cells slots Q (F0 m pc ls (.int x :: .int i :: .ref (ad lb) :: rest)) := by
  obtain ⟨hx, hb, hml, hown, hts, hK, hz, hr, hlk⟩ := X
  obtain ⟨j, hj⟩ := fh_k hw.1 hM
  exact va_iast hx hb hK.1 (fh_P hw.1) (fh_D hw.1) hw.2 j 0 hj rfl hin hdg (fun H1 locs1 hP hD hS => kk H1 locs1 ⟨fh_set hw.1 hM hj (Nat.le_trans hz.1 hS.1) hP hD, hS⟩)
theorem f_zast (X : fX p s m args meth c cc nL ret own g) (hw : fw g ad M s H locs) {n : Nat} {f : Nat → Int32} (hM : M lb = some (.inl (gZ g, n, .inl f))) {i : Int32} {x : Int32} (hin : vp_in i n) (hdg : decode cc pc = .ok (.bastore, 1))
    (kk : ∀ (H1 : Heap) (locs1 : List Loc), fw g ad (fU M lb (.inl (gZ g, n, .inl (upd f i.toNatClampNeg (x &&& 1))))) s H1 locs1 → W p l e R s m args below meth c H1 locs1 cells slots Q (F0 m (pc + 1) ls rest)) : W p l e R s m args below meth c H locs cells slots Q (F0 m pc ls (.int x :: .int i :: .ref (ad lb) :: rest)) := by
  obtain ⟨hx, hb, hml, hown, hts, hK, hz, hr, hlk⟩ := X
  obtain ⟨j, hj⟩ := fh_k hw.1 hM
  exact va_zast hx hb hK.1 (fh_P hw.1) (fh_D hw.1) hw.2 j 1 hj rfl hin hdg (fun H1 locs1 hP hD hS => kk H1 locs1 ⟨fh_set hw.1 hM hj (Nat.le_trans hz.1 hS.1) hP hD, hS⟩)
theorem f_last (X : fX p s m args meth c cc nL ret own g) (hw : fw g ad M s H locs) {n : Nat} {f : Nat → Int64} (hM : M lb = some (.inl (gJ g, n, .inr (.inl f)))) {i : Int32} {x : Int64} (hin : vp_in i n) (hdg : decode cc pc = .ok (.lastore, 1))
    (kk : ∀ (H1 : Heap) (locs1 : List Loc), fw g ad (fU M lb (.inl (gJ g, n, .inr (.inl (vp_updL f i.toNatClampNeg x))))) s H1 locs1 → W p l e R s m args below meth c H1 locs1 cells slots Q (F0 m (pc + 1) ls rest)) : W p l e R s m args below meth c H locs cells slots Q (F0 m pc ls (.long x :: .int i :: .ref (ad lb) :: rest)) := by
  obtain ⟨hx, hb, hml, hown, hts, hK, hz, hr, hlk⟩ := X
  obtain ⟨j, hj⟩ := fh_k hw.1 hM
  exact va_last hx hb hK.1 (fh_P hw.1) (fh_D hw.1) hw.2 j 4 hj rfl hin hdg (fun H1 locs1 hP hD hS => kk H1 locs1 ⟨fh_set hw.1 hM hj (Nat.le_trans hz.1 hS.1) hP hD, hS⟩)
theorem f_new (X : fX p s m args meth c cc nL ret own g) (hw : fw g ad M s H locs) {ci index : Nat} {C : String} {T : u_T} {N : Nat} {ty : Nat → FieldType} (ln : Nat) (h4 : ln < 4096) (hc : fcl ci C T N ty) (hcl : Cond.classLink own index C ∈ AL) (hinst : Cond.instantiable C N ∈ AL) (hini : Cond.initialized C ∈ AL)
    {fs : List Value} (hfs : ∀ j, j < N → defaultValue (ty j) = vp_V fs j) (hcells : cells + 1 ≤ R.cells) (hslots : slots + N ≤ R.slots) (hdg : decode cc pc = .ok (.new index, 3))
    (kk : ∀ (q : Nat) (H1 : Heap), fw g (fV ad ln q) (fU M ln (.inr (ci, fs))) s H1 locs → W p l e R s m args below meth c H1 locs (cells + 1) (slots + N) Q (F0 m (pc + 3) ls (.ref q :: rest))) : W p l e R s m args below meth c H locs cells slots Q (F0 m pc ls rest) := by
  obtain ⟨hx, hb, hml, hown, hts, hK, hz, hr, hlk⟩ := X
  exact va_new hx hb hts hc.2.1 ty hc.2.2.1 hown (hts _ hcl) (hts _ hinst) (hts _ hini) hK.1 (fh_P hw.1) (fh_D hw.1) hw.2 (fw_A hz) hc.1 hfs hcells hslots hdg (fun q H1 hP hD hS => kk q H1 ⟨fh_push hw.1 h4 (Nat.le_trans hz.1 hS.1) hP hD, hS⟩)
theorem f_newI (X : fX p s m args meth c cc nL ret own g) (hw : fw g ad M s H locs) (ln : Nat) (h4 : ln < 4096) (harr : Cond.arrayClass .int ∈ AL) {n : Int32} {N' : Nat} (hn : ¬ n < 0) (hN : n.toNatClampNeg = N') (hbytes : N' * componentBytes .int ≤ 536870912) (hcells : cells + 1 ≤ R.cells) (hslots : slots + N' ≤ R.slots) (hdg : decode cc pc = .ok (.newarray .int, 2))
    (kk : ∀ (q : Nat) (H1 : Heap), fw g (fV ad ln q) (fU M ln (.inl (gI g, N', .inl (fun _ => 0)))) s H1 locs → W p l e R s m args below meth c H1 locs (cells + 1) (slots + N') Q (F0 m (pc + 2) ls (.ref q :: rest))) : W p l e R s m args below meth c H locs cells slots Q (F0 m pc ls (.int n :: rest)) := by
  obtain ⟨hx, hb, hml, hown, hts, hK, hz, hr, hlk⟩ := X
  refine va_newa (atype := .int) (a0 := (N', .inl (fun _ => 0))) hx hb (hts _ harr) rfl hK.1 (fh_P hw.1) (fh_D hw.1) hw.2 (fw_A hz) (fun _ => rfl) hn hN hbytes hcells hslots hdg (fun q cA H1 hK1 hP hD hS => ?_)
  have e1 : cA = gI g := by
    have a1 := (hK1.2 5 (cA, .int) rfl).2
    have a2 := (hK.1.2 0 (gI g, .int) rfl).2
    exact Option.some.inj (a1.symm.trans a2)
  subst e1
  exact kk q H1 ⟨fh_push hw.1 h4 (Nat.le_trans hz.1 hS.1) hP hD, hS⟩
theorem f_newZ (X : fX p s m args meth c cc nL ret own g) (hw : fw g ad M s H locs) (ln : Nat) (h4 : ln < 4096) (harr : Cond.arrayClass .boolean ∈ AL) {n : Int32} {N' : Nat} (hn : ¬ n < 0) (hN : n.toNatClampNeg = N') (hbytes : N' * componentBytes .boolean ≤ 536870912) (hcells : cells + 1 ≤ R.cells) (hslots : slots + N' ≤ R.slots) (hdg : decode cc pc = .ok (.newarray .boolean, 2))
    (kk : ∀ (q : Nat) (H1 : Heap), fw g (fV ad ln q) (fU M ln (.inl (gZ g, N', .inl (fun _ => 0)))) s H1 locs → W p l e R s m args below meth c H1 locs (cells + 1) (slots + N') Q (F0 m (pc + 2) ls (.ref q :: rest))) : W p l e R s m args below meth c H locs cells slots Q (F0 m pc ls (.int n :: rest)) := by
  obtain ⟨hx, hb, hml, hown, hts, hK, hz, hr, hlk⟩ := X
  refine va_newa (atype := .boolean) (a0 := (N', .inl (fun _ => 0))) hx hb (hts _ harr) rfl hK.1 (fh_P hw.1) (fh_D hw.1) hw.2 (fw_A hz) (fun _ => rfl) hn hN hbytes hcells hslots hdg (fun q cA H1 hK1 hP hD hS => ?_)
  have e1 : cA = gZ g := by
    have a1 := (hK1.2 5 (cA, .boolean) rfl).2
    have a2 := (hK.1.2 1 (gZ g, .boolean) rfl).2
    exact Option.some.inj (a1.symm.trans a2)
  subst e1
  exact kk q H1 ⟨fh_push hw.1 h4 (Nat.le_trans hz.1 hS.1) hP hD, hS⟩
theorem f_newJ (X : fX p s m args meth c cc nL ret own g) (hw : fw g ad M s H locs) (ln : Nat) (h4 : ln < 4096) (harr : Cond.arrayClass .long ∈ AL) {n : Int32} {N' : Nat} (hn : ¬ n < 0) (hN : n.toNatClampNeg = N') (hbytes : N' * componentBytes .long ≤ 536870912) (hcells : cells + 1 ≤ R.cells) (hslots : slots + N' ≤ R.slots) (hdg : decode cc pc = .ok (.newarray .long, 2))
    (kk : ∀ (q : Nat) (H1 : Heap), fw g (fV ad ln q) (fU M ln (.inl (gJ g, N', .inr (.inl (fun _ => 0))))) s H1 locs → W p l e R s m args below meth c H1 locs (cells + 1) (slots + N') Q (F0 m (pc + 2) ls (.ref q :: rest))) : W p l e R s m args below meth c H locs cells slots Q (F0 m pc ls (.int n :: rest)) := by
  obtain ⟨hx, hb, hml, hown, hts, hK, hz, hr, hlk⟩ := X
  refine va_newa (atype := .long) (a0 := (N', .inr (.inl (fun _ => 0)))) hx hb (hts _ harr) rfl hK.1 (fh_P hw.1) (fh_D hw.1) hw.2 (fw_A hz) (fun _ => rfl) hn hN hbytes hcells hslots hdg (fun q cA H1 hK1 hP hD hS => ?_)
  have e1 : cA = gJ g := by
    have a1 := (hK1.2 5 (cA, .long) rfl).2
    have a2 := (hK.1.2 4 (gJ g, .long) rfl).2
    exact Option.some.inj (a1.symm.trans a2)
  subst e1
  exact kk q H1 ⟨fh_push hw.1 h4 (Nat.le_trans hz.1 hS.1) hP hD, hS⟩
/-- returns -/
theorem f_iret (X : fX p s m args meth c cc nL (some .int) own g) (hw : fw g ad M s H locs) {post : Int32 → (Nat → Nat) → fM → Prop} {v : Int32} {mc ms : Nat} (hp : post v ad M) (hc : cells ≤ mc) (hs : slots ≤ ms) (hdg : decode cc pc = .ok (.ireturn, 1)) :
    W p l e R s m args below meth c H locs cells slots (MQ below (va_Qi (fun r (u : (Nat → Nat) × fM) => post r u.1 u.2) (fun u t => fh g u.1 u.2 t.heap) (fA g)) args s mc ms (fA g)) (F0 m pc ls [.int v]) := by
  obtain ⟨hx, hb, hml, hown, hts, hK, hz, hr, hlk⟩ := X
  exact W.widen hc hs (W.iret hx hb hr (fun t ht _ => ⟨⟨v, (ad, M), rfl, hp, (by show fh g ad M t.heap; rw [ht]; exact hw.1)⟩, hw.2.F ht⟩) hw.2.2.2 hdg hlk)
theorem f_zret (X : fX p s m args meth c cc nL (some .boolean) own g) (hw : fw g ad M s H locs) {post : Int32 → (Nat → Nat) → fM → Prop} {v : Int32} {mc ms : Nat} (hn : narrow .boolean (.int v) = .int v) (hp : post v ad M) (hc : cells ≤ mc) (hs : slots ≤ ms) (hdg : decode cc pc = .ok (.ireturn, 1)) :
    W p l e R s m args below meth c H locs cells slots (MQ below (va_Qi (fun r (u : (Nat → Nat) × fM) => post r u.1 u.2) (fun u t => fh g u.1 u.2 t.heap) (fA g)) args s mc ms (fA g)) (F0 m pc ls [.int v]) := by
  obtain ⟨hx, hb, hml, hown, hts, hK, hz, hr, hlk⟩ := X
  exact W.widen hc hs (W.zret hx hb hr hn (fun t ht _ => ⟨⟨v, (ad, M), rfl, hp, (by show fh g ad M t.heap; rw [ht]; exact hw.1)⟩, hw.2.F ht⟩) hw.2.2.2 hdg hlk)
theorem f_lret (X : fX p s m args meth c cc nL (some .long) own g) (hw : fw g ad M s H locs) {post : Int64 → (Nat → Nat) → fM → Prop} {v : Int64} {mc ms : Nat} (hp : post v ad M) (hc : cells ≤ mc) (hs : slots ≤ ms) (hdg : decode cc pc = .ok (.lreturn, 1)) :
    W p l e R s m args below meth c H locs cells slots (MQ below (va_Ql (fun r (u : (Nat → Nat) × fM) => post r u.1 u.2) (fun u t => fh g u.1 u.2 t.heap) (fA g)) args s mc ms (fA g)) (F0 m pc ls [.long v]) := by
  obtain ⟨hx, hb, hml, hown, hts, hK, hz, hr, hlk⟩ := X
  exact W.widen hc hs (W.lret hx hb hr (fun t ht _ => ⟨⟨v, (ad, M), rfl, hp, (by show fh g ad M t.heap; rw [ht]; exact hw.1)⟩, hw.2.F ht⟩) hw.2.2.2 hdg hlk)
theorem f_vret (X : fX p s m args meth c cc nL none own g) (hw : fw g ad M s H locs) {post : (Nat → Nat) → fM → Prop} {mc ms : Nat} (hp : post ad M) (hc : cells ≤ mc) (hs : slots ≤ ms) (hdg : decode cc pc = .ok (.return_, 1)) :
    W p l e R s m args below meth c H locs cells slots (MQ below (va_Qv (fun (u : (Nat → Nat) × fM) => post u.1 u.2) (fun u t => fh g u.1 u.2 t.heap) (fA g)) args s mc ms (fA g)) (F0 m pc ls []) := by
  obtain ⟨hx, hb, hml, hown, hts, hK, hz, hr, hlk⟩ := X
  exact W.widen hc hs (W.vret hx hb hr (fun t ht _ => ⟨⟨(ad, M), rfl, hp, (by show fh g ad M t.heap; rw [ht]; exact hw.1)⟩, hw.2.F ht⟩) hw.2.2.2 hdg hlk)
theorem f_aret (X : fX p s m args meth c cc nL ret own g) {rt : FieldType} (hrt : ret = some rt) (hn : (∃ n, rt = FieldType.object n) ∨ ∃ t, rt = FieldType.array t) (hw : fw g ad M s H locs) {post : Nat → (Nat → Nat) → fM → Prop} {mc ms : Nat} (hp : post q9 ad M) (hc : cells ≤ mc) (hs : slots ≤ ms) (hdg : decode cc pc = .ok (.areturn, 1)) :
    W p l e R s m args below meth c H locs cells slots (MQ below (va_Qr (fun (u : Nat × (Nat → Nat) × fM) => post u.1 u.2.1 u.2.2) (fun u a t => a = u.1 ∧ fh g u.2.1 u.2.2 t.heap) (fA g)) args s mc ms (fA g)) (F0 m pc ls [.ref q9]) := by
  obtain ⟨hx, hb, hml, hown, hts, hK, hz, hr, hlk⟩ := X
  subst hrt
  exact W.widen hc hs (W.aret (v := .ref q9) hx hb hr hn (Or.inr ⟨q9, rfl⟩) (fun t ht _ => ⟨⟨(q9, ad, M), q9, rfl, hp, rfl, (by show fh g ad M t.heap; rw [ht]; exact hw.1)⟩, hw.2.F ht⟩) hw.2.2.2 hdg hlk)
/-- the callee's words -/
def fkV (C : String) (y : MethodName) (bytes : ByteArray) (maxL : Nat) (rt : Option FieldType) (n : Nat) : Prop := Cond.instanceMethod y ∈ AL ∧ Cond.selects C y y ∈ AL ∧ Cond.initialized C ∈ AL ∧ Cond.code y bytes maxL rt ∈ AL ∧ (y.cls = C ∧ y.cls ≠ "java/lang/invoke/MethodHandle" ∧ y.cls ≠ "java/lang/invoke/VarHandle" ∧ (parseMethodDescriptor y.desc).map (fun d => d.parameters.length) = some n)
def fkS (y : MethodName) (bytes : ByteArray) (maxL : Nat) (rt : Option FieldType) (n : Nat) : Prop := Cond.static y ∈ AL ∧ Cond.initialized y.cls ∈ AL ∧ Cond.code y bytes maxL rt ∈ AL ∧ (y.cls ≠ "java/lang/invoke/MethodHandle" ∧ y.cls ≠ "java/lang/invoke/VarHandle" ∧ (parseMethodDescriptor y.desc).map (fun d => d.parameters.length) = some n)
def fkI (y : MethodName) (bytes : ByteArray) (maxL : Nat) (n : Nat) : Prop := Cond.instanceMethod y ∈ AL ∧ Cond.initialized y.cls ∈ AL ∧ Cond.code y bytes maxL none ∈ AL ∧ y.name = "<init>" ∧ (y.cls ≠ "java/lang/invoke/MethodHandle" ∧ y.cls ≠ "java/lang/invoke/VarHandle" ∧ (parseMethodDescriptor y.desc).map (fun d => d.parameters.length) = some n)
theorem f_pre (X : fX p s m args meth c cc nL ret own g) (hw : fw g ad M s H locs) {av : List Value} : ∀ U : State, U.heap = H → s.WarmedH U.vm → va_Pc av (fS g ad M) av.toArray U := by
  obtain ⟨hx, hb, hml, hown, hts, hK, hz, hr, hlk⟩ := X
  intro U hU hW
  refine ⟨rfl, fK_warm hW hK, ?_, by rw [hU]; exact hw.1⟩
  rw [hU]
  exact fz_moved hW.alike (fz_kept hz hw.2.1 hw.2.2.1)
theorem f_recv (X : fX p s m args meth c cc nL ret own g) (hw : fw g ad M s H locs) {ci : Nat} {C : String} {T : u_T} {N : Nat} {fs : List Value} (hM : M lb = some (.inr (ci, fs))) (hci : vwCl[ci]? = some (C, T, N)) : ∃ cell : Cell, H[ad lb]? = some cell ∧ cell.vm.isStatics = false ∧ s.vm.findClass C = some cell.cls :=
  va_recv X.2.2.2.2.2.1.1 (f_single (hw.1.2.2.1 lb _ hM).2) hci (q0 := 0) rfl
section FCALL
variable {y : MethodName} {bytes : ByteArray} {maxL fr lo mc ms n index : Nat} {rt : Option FieldType} {Qc : Array Value → State → Outcome → State → Prop} {As st0 : List Value} {free : Addr → Prop}
theorem fcV (X : fX p s m args meth c cc nL ret own g) (hw : fw g ad M s H locs) (hC : Met l y (fWs y bytes maxL rt) (fR fr lo mc ms) (va_Pc (.ref (ad lb) :: As) (fS g ad M)) Qc mc ms free)
    {ci : Nat} {C : String} {T : u_T} {N : Nat} {fs : List Value} (hM : M lb = some (.inr (ci, fs))) (hci : vwCl[ci]? = some (C, T, N)) (kl : Cond.methodLink own index y ∈ AL) (kv : fkV C y bytes maxL rt n) (hR : fr + 1 ≤ R.frames ∧ 8 + (maxL + 11) + lo ≤ R.locals) (hn : As.length = n) (hls : ls.size = nL) (hst : st0 = As.reverse ++ .ref (ad lb) :: rest) (hW : (rest.map fun v => v.category).sum ≤ 8) (hdg : decode cc pc = .ok (.invokevirtual index, 3)) (hf : cells + mc ≤ R.cells ∧ slots + ms ≤ R.slots) :
    va_Run p l e R s m args below meth c H locs cells slots mc ms (F0 m pc ls st0) rest (Qc (Value.ref (ad lb) :: As).toArray) free := by
  obtain ⟨hx, hb, hml, hown, hts, hK, hz, hr, hlk⟩ := id X
  obtain ⟨k1, k2, k3, k4, k5⟩ := kv
  refine va_runV (Ts := AL) (own := own) ⟨hx, hb, hml, hown, hts⟩ hC (cwV n hts (f_good fun w h => ?_) rfl rfl rfl k5 hR) ⟨fS_blind, f_recv X hw hM hci, f_pre X hw⟩ rfl hn hls hst (lv_room hW) hdg hf
  simp only [wsV, List.mem_append, List.mem_cons, List.not_mem_nil, or_false] at h
  rcases h with (rfl | rfl | rfl | rfl) | (rfl | h)
  · exact kl
  · exact k1
  · exact k2
  · exact k3
  · exact k4
  · exact h
theorem fcS (X : fX p s m args meth c cc nL ret own g) (hw : fw g ad M s H locs) (hC : Met l y (fWs y bytes maxL rt) (fR fr lo mc ms) (va_Pc As (fS g ad M)) Qc mc ms free)
    (kl : Cond.methodLink own index y ∈ AL) (kv : fkS y bytes maxL rt n) (hR : fr + 1 ≤ R.frames ∧ 8 + (maxL + 11) + lo ≤ R.locals) (hn : As.length = n) (hls : ls.size = nL) (hst : st0 = As.reverse ++ rest) (hW : (rest.map fun v => v.category).sum ≤ 8) (hdg : decode cc pc = .ok (.invokestatic index, 3)) (hf : cells + mc ≤ R.cells ∧ slots + ms ≤ R.slots) :
    va_Run p l e R s m args below meth c H locs cells slots mc ms (F0 m pc ls st0) rest (Qc As.toArray) free := by
  obtain ⟨hx, hb, hml, hown, hts, hK, hz, hr, hlk⟩ := id X
  obtain ⟨k1, k3, k4, k5⟩ := kv
  refine va_runS (Ts := AL) (own := own) ⟨hx, hb, hml, hown, hts⟩ hC (va_cwS n hts (f_good fun w h => ?_) rfl rfl rfl k5 hR) ⟨fS_blind, f_pre X hw⟩ rfl hn hls hst (lv_room hW) hdg hf
  simp only [va_wsS, List.mem_append, List.mem_cons, List.not_mem_nil, or_false] at h
  rcases h with (rfl | rfl | rfl) | (rfl | h)
  · exact kl
  · exact k1
  · exact k3
  · exact k4
  · exact h
theorem fcSN (X : fX p s m args meth c cc nL ret own g) (hw : fw g ad M s H locs) (hC : Met l y (fWs y bytes maxL rt) (fR fr lo mc ms) (va_Pc As (fS g ad M)) Qc mc ms free) {host : String}
    (kl : Cond.methodLinkNest own index y host ∈ NW) (kv : fkS y bytes maxL rt n) (hR : fr + 1 ≤ R.frames ∧ 8 + (maxL + 11) + lo ≤ R.locals) (hn : As.length = n) (hls : ls.size = nL) (hst : st0 = As.reverse ++ rest) (hW : (rest.map fun v => v.category).sum ≤ 8) (hdg : decode cc pc = .ok (.invokestatic index, 3)) (hf : cells + mc ≤ R.cells ∧ slots + ms ≤ R.slots) :
    va_Run p l e R s m args below meth c H locs cells slots mc ms (F0 m pc ls st0) rest (Qc As.toArray) free := by
  obtain ⟨hx, hb, hml, hown, hts, hK, hz, hr, hlk⟩ := id X
  obtain ⟨k1, k3, k4, k5⟩ := kv
  refine va_runSN (Ts := AL) (own := own) ⟨hx, hb, hml, hown, hts⟩ hC ⟨va_cnB n hts (f_good fun w h => ?_) rfl rfl rfl (hK.2.1 _ kl) (hts _ k3) k5 hR, hts _ k1, trivial⟩ ⟨fS_blind, f_pre X hw⟩ rfl hn hls hst (lv_room hW) hdg hf
  rcases List.mem_cons.mp h with rfl | h
  · exact k4
  · exact h
theorem fcI (X : fX p s m args meth c cc nL ret own g) (hw : fw g ad M s H locs) {b9 : Nat} (hC : Met l y (fWs y bytes maxL none) (fR fr lo mc ms) (va_Pc (.ref b9 :: As) (fS g ad M)) Qc mc ms free)
    (kl : Cond.methodLink own index y ∈ AL) (kv : fkI y bytes maxL n) (hR : fr + 1 ≤ R.frames ∧ 8 + (maxL + 11) + lo ≤ R.locals) (hn : As.length = n) (hls : ls.size = nL) (hst : st0 = As.reverse ++ .ref b9 :: rest) (hW : (rest.map fun v => v.category).sum ≤ 8) (hdg : decode cc pc = .ok (.invokespecial index, 3)) (hf : cells + mc ≤ R.cells ∧ slots + ms ≤ R.slots) :
    va_Run p l e R s m args below meth c H locs cells slots mc ms (F0 m pc ls st0) rest (Qc (Value.ref b9 :: As).toArray) free := by
  obtain ⟨hx, hb, hml, hown, hts, hK, hz, hr, hlk⟩ := id X
  obtain ⟨k1, k3, k4, k6, k5⟩ := kv
  refine va_runI (Ts := AL) (own := own) ⟨hx, hb, hml, hown, hts⟩ hC (cwI n hts (f_good fun w h => ?_) rfl rfl rfl (hts _ k3) (hts _ kl) (hts _ k1) k6 k5 hR) ⟨fS_blind, f_pre X hw⟩ rfl hn hls hst (lv_room hW) hdg hf
  rcases List.mem_cons.mp h with rfl | h
  · exact k4
  · exact h
theorem fcIN (X : fX p s m args meth c cc nL ret own g) (hw : fw g ad M s H locs) {b9 : Nat} (hC : Met l y (fWs y bytes maxL none) (fR fr lo mc ms) (va_Pc (.ref b9 :: As) (fS g ad M)) Qc mc ms free) {host : String}
    (kl : Cond.methodLinkNest own index y host ∈ NW) (kv : fkI y bytes maxL n) (hR : fr + 1 ≤ R.frames ∧ 8 + (maxL + 11) + lo ≤ R.locals) (hn : As.length = n) (hls : ls.size = nL) (hst : st0 = As.reverse ++ .ref b9 :: rest) (hW : (rest.map fun v => v.category).sum ≤ 8) (hdg : decode cc pc = .ok (.invokespecial index, 3)) (hf : cells + mc ≤ R.cells ∧ slots + ms ≤ R.slots) :
    va_Run p l e R s m args below meth c H locs cells slots mc ms (F0 m pc ls st0) rest (Qc (Value.ref b9 :: As).toArray) free := by
  obtain ⟨hx, hb, hml, hown, hts, hK, hz, hr, hlk⟩ := id X
  obtain ⟨k1, k3, k4, k6, k5⟩ := kv
  refine va_runIN (Ts := AL) (own := own) ⟨hx, hb, hml, hown, hts⟩ hC ⟨va_cnB n hts (f_good fun w h => ?_) rfl rfl rfl (hK.2.1 _ kl) (hts _ k3) k5 hR, k6, hts _ k1⟩ ⟨fS_blind, f_pre X hw⟩ rfl hn hls hst (lv_room hW) hdg hf
  rcases List.mem_cons.mp h with rfl | h
  · exact k4
  · exact h
end FCALL
section FBACK
variable {st0 : List Value} {a : Array Value} {mc ms : Nat}
theorem fk_i {post : Int32 → (Nat → Nat) → fM → Prop} (hr : va_Run p l e R s m args below meth c H locs cells slots mc ms (F0 m pc ls st0) rest (va_Qi (fun r (u : (Nat → Nat) × fM) => post r u.1 u.2) (fun u t => fh g u.1 u.2 t.heap) (fA g) a) (fA g)) (hw : fw g ad M s H locs)
    (kk : ∀ (r : Int32) (ad1 : Nat → Nat) (M1 : fM) (H1 : Heap) (locs1 : List Loc), post r ad1 M1 → fw g ad1 M1 s H1 locs1 → W p l e R s m args below meth c H1 locs1 (cells + mc) (slots + ms) Q (F0 m (pc + 3) ls (.int r :: rest))) : W p l e R s m args below meth c H locs cells slots Q (F0 m pc ls st0) :=
  va_calli hr hw.2 (fun _ _ h => h) (fun _ h => h) (fun r u t H1 locs1 ht _ hp hB _ _ hS => kk r u.1 u.2 H1 locs1 hp ⟨by rw [← ht]; exact hB, hS⟩)
theorem fk_l {post : Int64 → (Nat → Nat) → fM → Prop} (hr : va_Run p l e R s m args below meth c H locs cells slots mc ms (F0 m pc ls st0) rest (va_Ql (fun r (u : (Nat → Nat) × fM) => post r u.1 u.2) (fun u t => fh g u.1 u.2 t.heap) (fA g) a) (fA g)) (hw : fw g ad M s H locs)
    (kk : ∀ (r : Int64) (ad1 : Nat → Nat) (M1 : fM) (H1 : Heap) (locs1 : List Loc), post r ad1 M1 → fw g ad1 M1 s H1 locs1 → W p l e R s m args below meth c H1 locs1 (cells + mc) (slots + ms) Q (F0 m (pc + 3) ls (.long r :: rest))) : W p l e R s m args below meth c H locs cells slots Q (F0 m pc ls st0) :=
  va_calll hr hw.2 (fun _ _ h => h) (fun _ h => h) (fun r u t H1 locs1 ht _ hp hB _ _ hS => kk r u.1 u.2 H1 locs1 hp ⟨by rw [← ht]; exact hB, hS⟩)
theorem fk_v {post : (Nat → Nat) → fM → Prop} (hr : va_Run p l e R s m args below meth c H locs cells slots mc ms (F0 m pc ls st0) rest (va_Qv (fun (u : (Nat → Nat) × fM) => post u.1 u.2) (fun u t => fh g u.1 u.2 t.heap) (fA g) a) (fA g)) (hw : fw g ad M s H locs)
    (kk : ∀ (ad1 : Nat → Nat) (M1 : fM) (H1 : Heap) (locs1 : List Loc), post ad1 M1 → fw g ad1 M1 s H1 locs1 → W p l e R s m args below meth c H1 locs1 (cells + mc) (slots + ms) Q (F0 m (pc + 3) ls rest)) : W p l e R s m args below meth c H locs cells slots Q (F0 m pc ls st0) :=
  va_callv hr hw.2 (fun _ _ h => h) (fun _ h => h) (fun u t H1 locs1 ht _ hp hB _ _ hS => kk u.1 u.2 H1 locs1 hp ⟨by rw [← ht]; exact hB, hS⟩)
theorem fk_r {post : Nat → (Nat → Nat) → fM → Prop} (hr : va_Run p l e R s m args below meth c H locs cells slots mc ms (F0 m pc ls st0) rest (va_Qr (fun (u : Nat × (Nat → Nat) × fM) => post u.1 u.2.1 u.2.2) (fun u a t => a = u.1 ∧ fh g u.2.1 u.2.2 t.heap) (fA g) a) (fA g)) (hw : fw g ad M s H locs)
    (kk : ∀ (q : Nat) (ad1 : Nat → Nat) (M1 : fM) (H1 : Heap) (locs1 : List Loc), post q ad1 M1 → fw g ad1 M1 s H1 locs1 → W p l e R s m args below meth c H1 locs1 (cells + mc) (slots + ms) Q (F0 m (pc + 3) ls (.ref q :: rest))) : W p l e R s m args below meth c H locs cells slots Q (F0 m pc ls st0) := by
  refine va_callr hr hw.2 (fun _ _ h => h) (fun _ h => h) (fun u a9 t H1 locs1 ht _ hp hB _ _ hS => ?_)
  obtain ⟨rfl, hB⟩ := hB
  exact kk _ u.2.1 u.2.2 H1 locs1 hp ⟨by rw [← ht]; exact hB, hS⟩
end FBACK
end FWALK
end
section
theorem fc0 : fcl 0 RJx4a65c TJx4a65c 3 tyJx4a65c := ⟨rfl, (List.forall_mem_cons.mpr ⟨wq77, (List.forall_mem_cons.mpr ⟨wq73, (List.forall_mem_cons.mpr ⟨wq75, (fun _ h => absurd h List.not_mem_nil)⟩)⟩)⟩), tyJx4a65c_ok, nmJx4a65c⟩
theorem fc1 : fcl 1 RX0 TX0 11 tyX0 := ⟨rfl, (List.forall_mem_cons.mpr ⟨wq282, (List.forall_mem_cons.mpr ⟨wq284, (List.forall_mem_cons.mpr ⟨wq286, (List.forall_mem_cons.mpr ⟨wq288, (List.forall_mem_cons.mpr ⟨wq290, (List.forall_mem_cons.mpr ⟨wq292, (List.forall_mem_cons.mpr ⟨wq294, (List.forall_mem_cons.mpr ⟨wq296, (List.forall_mem_cons.mpr ⟨wq298, (List.forall_mem_cons.mpr ⟨wq300, (List.forall_mem_cons.mpr ⟨wq302, (fun _ h => absurd h List.not_mem_nil)⟩)⟩)⟩)⟩)⟩)⟩)⟩)⟩)⟩)⟩)⟩), tyX0_ok, nmX0⟩
theorem fc2 : fcl 2 RX1 TX1 3 tyX1 := ⟨rfl, (List.forall_mem_cons.mpr ⟨wq40, (List.forall_mem_cons.mpr ⟨wq42, (List.forall_mem_cons.mpr ⟨wq44, (fun _ h => absurd h List.not_mem_nil)⟩)⟩)⟩), tyX1_ok, nmX1⟩
theorem fc3 : fcl 3 RX2 TX2 7 tyX2 := ⟨rfl, (List.forall_mem_cons.mpr ⟨wq138, (List.forall_mem_cons.mpr ⟨wq140, (List.forall_mem_cons.mpr ⟨wq142, (List.forall_mem_cons.mpr ⟨wq144, (List.forall_mem_cons.mpr ⟨wq146, (List.forall_mem_cons.mpr ⟨wq148, (List.forall_mem_cons.mpr ⟨wq150, (fun _ h => absurd h List.not_mem_nil)⟩)⟩)⟩)⟩)⟩)⟩)⟩), tyX2_ok, nmX2⟩
theorem fc4 : fcl 4 RX3 TX3 2 tyX3 := ⟨rfl, (List.forall_mem_cons.mpr ⟨wq241, (List.forall_mem_cons.mpr ⟨wq243, (fun _ h => absurd h List.not_mem_nil)⟩)⟩), tyX3_ok, nmX3⟩
theorem fc5 : fcl 5 RX4 TX4 4 tyX4 := ⟨rfl, (List.forall_mem_cons.mpr ⟨wq87, (List.forall_mem_cons.mpr ⟨wq89, (List.forall_mem_cons.mpr ⟨wq91, (List.forall_mem_cons.mpr ⟨wq93, (fun _ h => absurd h List.not_mem_nil)⟩)⟩)⟩)⟩), tyX4_ok, nmX4⟩
theorem fc6 : fcl 6 RX5 TX5 3 tyX5 := ⟨rfl, (List.forall_mem_cons.mpr ⟨wq99, (List.forall_mem_cons.mpr ⟨wq101, (List.forall_mem_cons.mpr ⟨wq103, (fun _ h => absurd h List.not_mem_nil)⟩)⟩)⟩), tyX5_ok, nmX5⟩
theorem fc7 : fcl 7 RX6 TX6 13 tyX6 := ⟨rfl, (List.forall_mem_cons.mpr ⟨wq807, (List.forall_mem_cons.mpr ⟨wq809, (List.forall_mem_cons.mpr ⟨wq811, (List.forall_mem_cons.mpr ⟨wq813, (List.forall_mem_cons.mpr ⟨wq815, (List.forall_mem_cons.mpr ⟨wq817, (List.forall_mem_cons.mpr ⟨wq819, (List.forall_mem_cons.mpr ⟨wq821, (List.forall_mem_cons.mpr ⟨wq823, (List.forall_mem_cons.mpr ⟨wq825, (List.forall_mem_cons.mpr ⟨wq827, (List.forall_mem_cons.mpr ⟨wq829, (List.forall_mem_cons.mpr ⟨wq831, (fun _ h => absurd h List.not_mem_nil)⟩)⟩)⟩)⟩)⟩)⟩)⟩)⟩)⟩)⟩)⟩)⟩)⟩), tyX6_ok, nmX6⟩
theorem kIX5_init : fkI yX5_init cX5_init 1 0 := ⟨wq26, wq1, wq27, rfl, by decide +kernel⟩
theorem kIX1_init : fkI yX1_init cX1_init 1 0 := ⟨wq34, wq2, wq35, rfl, by decide +kernel⟩
theorem kIX4_init : fkI yX4_init cX4_init 1 0 := ⟨wq51, wq3, wq52, rfl, by decide +kernel⟩
theorem kIJx4a65c_init_da8c8 : fkI yJx4a65c_init_da8c8 cJx4a65c_init_da8c8 1 0 := ⟨wq57, wq6, wq58, rfl, by decide +kernel⟩
theorem kIJxc12de_init_da8c8 : fkI yJxc12de_init_da8c8 cJxc12de_init_da8c8 1 0 := ⟨wq60, wq5, wq61, rfl, by decide +kernel⟩
theorem kIJxa1e45_init_da8c8 : fkI yJxa1e45_init_da8c8 cJxa1e45_init_da8c8 1 0 := ⟨wq63, wq4, wq64, rfl, by decide +kernel⟩
theorem kVX5_lasts : fkV RX5 yX5_lasts cX5_lasts 2 (some .int) 0 := ⟨wq107, wq108, wq1, wq109, by decide +kernel⟩
theorem kVX4_copyFrom : fkV RX4 yX4_copyFrom cX4_copyFrom 3 (none : Option Jvm.ClassFile.FieldType) 1 := ⟨wq111, wq112, wq3, wq113, by decide +kernel⟩
theorem kVJx4a65c_size_8abf5 : fkV RJx4a65c yJx4a65c_size_8abf5 cJx4a65c_size_8abf5 1 (some .int) 0 := ⟨wq115, wq116, wq6, wq117, by decide +kernel⟩
theorem kIX2_init : fkI yX2_init cX2_init 4 3 := ⟨wq121, wq16, wq122, rfl, by decide +kernel⟩
theorem kVJx4a65c_add_9ea2d : fkV RJx4a65c yJx4a65c_add_9ea2d cJx4a65c_add_9ea2d 2 (some .boolean) 1 := ⟨wq154, wq155, wq6, wq156, by decide +kernel⟩
theorem kVJx4a65c_add_72be8 : fkV RJx4a65c yJx4a65c_add_72be8 cJx4a65c_add_72be8 4 (none : Option Jvm.ClassFile.FieldType) 3 := ⟨wq159, ws0, wq6, wq160, by decide +kernel⟩
theorem kVJx4a65c_grow_d5877 : fkV RJx4a65c yJx4a65c_grow_d5877 cJx4a65c_grow_d5877 1 (some (.array (.object "java/lang/Object"))) 0 := ⟨wq163, ws1, wq6, wq164, by decide +kernel⟩
theorem kVJx4a65c_grow_92f84 : fkV RJx4a65c yJx4a65c_grow_92f84 cJx4a65c_grow_92f84 4 (some (.array (.object "java/lang/Object"))) 1 := ⟨wq167, ws2, wq6, wq168, by decide +kernel⟩
theorem kSJ8_newLength_cabcc : fkS yJ8_newLength_cabcc cJ8_newLength_cabcc 4 (some .int) 3 := ⟨wq170, wq17, wq171, by decide +kernel⟩
theorem kSJ8_hugeLength_7cf53 : fkS yJ8_hugeLength_7cf53 cJ8_hugeLength_7cf53 3 (some .int) 2 := ⟨wq177, wq17, wq178, by decide +kernel⟩
theorem kSJ7_copyOf_1904c : fkS yJ7_copyOf_1904c cJ7_copyOf_1904c 2 (some (.array (.object "java/lang/Object"))) 2 := ⟨wq180, wq19, wq181, by decide +kernel⟩
theorem kSJ7_copyOf_6403c : fkS yJ7_copyOf_6403c cJ7_copyOf_6403c 4 (some (.array (.object "java/lang/Object"))) 3 := ⟨wq198, wq19, wq199, by decide +kernel⟩
theorem kVJx4a65c_get_915e3 : fkV RJx4a65c yJx4a65c_get_915e3 cJx4a65c_get_915e3 2 (some (.object "java/lang/Object")) 1 := ⟨wq212, wq213, wq6, wq214, by decide +kernel⟩
theorem kSJ15_checkIndex_7cf53 : fkS yJ15_checkIndex_7cf53 cJ15_checkIndex_7cf53 2 (some .int) 2 := ⟨wq216, wq13, wq217, by decide +kernel⟩
theorem kSJ3_checkIndex_8e157 : fkS yJ3_checkIndex_8e157 cJ3_checkIndex_8e157 3 (some .int) 3 := ⟨wq219, wq14, wq220, by decide +kernel⟩
theorem kVJx4a65c_elementData_915e3 : fkV RJx4a65c yJx4a65c_elementData_915e3 cJx4a65c_elementData_915e3 2 (some (.object "java/lang/Object")) 1 := ⟨wq222, wq223, wq6, wq224, by decide +kernel⟩
theorem kVX2_copyFrom : fkV RX2 yX2_copyFrom cX2_copyFrom 2 (none : Option Jvm.ClassFile.FieldType) 1 := ⟨wq226, wq227, wq16, wq228, by decide +kernel⟩
theorem kIX3_init : fkI yX3_init cX3_init 3 2 := ⟨wq232, wq21, wq233, rfl, by decide +kernel⟩
theorem kVX3_copyFrom : fkV RX3 yX3_copyFrom cX3_copyFrom 2 (none : Option Jvm.ClassFile.FieldType) 1 := ⟨wq247, wq248, wq21, wq249, by decide +kernel⟩
theorem kIX0_init : fkI yX0_init cX0_init 4 3 := ⟨wq253, wq22, wq254, rfl, by decide +kernel⟩
theorem kVX0_copyFrom : fkV RX0 yX0_copyFrom cX0_copyFrom 2 (none : Option Jvm.ClassFile.FieldType) 1 := ⟨wq306, wq307, wq22, wq308, by decide +kernel⟩
theorem kVX4_housesThatAre : fkV RX4 yX4_housesThatAre cX4_housesThatAre 4 (some .int) 1 := ⟨wq310, wq311, wq3, wq312, by decide +kernel⟩
theorem kVX4_goOn : fkV RX4 yX4_goOn cX4_goOn 5 (some .int) 1 := ⟨wq314, wq315, wq3, wq316, by decide +kernel⟩
theorem kVX4_fireAndDrive : fkV RX4 yX4_fireAndDrive cX4_fireAndDrive 2 (none : Option Jvm.ClassFile.FieldType) 0 := ⟨wq319, ws3, wq3, wq320, by decide +kernel⟩
theorem kVX0_fire : fkV RX0 yX0_fire cX0_fire 1 (none : Option Jvm.ClassFile.FieldType) 0 := ⟨wq322, wq323, wq22, wq324, by decide +kernel⟩
theorem kVX0_driveAMinute : fkV RX0 yX0_driveAMinute cX0_driveAMinute 1 (none : Option Jvm.ClassFile.FieldType) 0 := ⟨wq328, wq329, wq22, wq330, by decide +kernel⟩
theorem kVX0_stands : fkV RX0 yX0_stands cX0_stands 1 (some .boolean) 0 := ⟨wq332, wq333, wq22, wq334, by decide +kernel⟩
theorem kVX4_moveWater : fkV RX4 yX4_moveWater cX4_moveWater 4 (none : Option Jvm.ClassFile.FieldType) 0 := ⟨wq337, ws4, wq3, wq338, by decide +kernel⟩
theorem kVX4_nextToAsk : fkV RX4 yX4_nextToAsk cX4_nextToAsk 2 (some .int) 0 := ⟨wq341, ws5, wq3, wq342, by decide +kernel⟩
theorem kVX4_waitsForWater : fkV RX4 yX4_waitsForWater cX4_waitsForWater 4 (some .boolean) 1 := ⟨wq345, ws6, wq3, wq346, by decide +kernel⟩
theorem kVX4_isEngine : fkV RX4 yX4_isEngine cX4_isEngine 2 (some .boolean) 1 := ⟨wq349, ws7, wq3, wq350, by decide +kernel⟩
theorem kVX4_ask : fkV RX4 yX4_ask cX4_ask 5 (none : Option Jvm.ClassFile.FieldType) 1 := ⟨wq353, ws8, wq3, wq354, by decide +kernel⟩
theorem kVX0_canPump : fkV RX0 yX0_canPump cX0_canPump 1 (some .int) 0 := ⟨wq356, wq357, wq22, wq358, by decide +kernel⟩
theorem kVX4_pondBy : fkV RX4 yX4_pondBy cX4_pondBy 3 (some .int) 1 := ⟨wq361, ws9, wq3, wq362, by decide +kernel⟩
theorem kSX5_areNear : fkS yX5_areNear cX5_areNear 4 (some .boolean) 2 := ⟨wq365, wq1, wq366, by decide +kernel⟩
theorem kVX3_giveUpTo : fkV RX3 yX3_giveUpTo cX3_giveUpTo 3 (some .int) 1 := ⟨wq368, wq369, wq21, wq370, by decide +kernel⟩
theorem kVX4_sendThroughHose : fkV RX4 yX4_sendThroughHose cX4_sendThroughHose 4 (none : Option Jvm.ClassFile.FieldType) 1 := ⟨wq376, ws10, wq3, wq377, by decide +kernel⟩
theorem kSX5_distance : fkS yX5_distance cX5_distance 2 (some .int) 2 := ⟨wq379, wq1, wq380, by decide +kernel⟩
theorem kSX4_arriving : fkS yX4_arriving cX4_arriving 2 (some .int) 2 := ⟨wq385, wq3, wq386, by decide +kernel⟩
theorem kVX4_isHouse : fkV RX4 yX4_isHouse cX4_isHouse 2 (some .boolean) 1 := ⟨wq389, ws11, wq3, wq390, by decide +kernel⟩
theorem kVX2_takeWater : fkV RX2 yX2_takeWater cX2_takeWater 2 (none : Option Jvm.ClassFile.FieldType) 1 := ⟨wq392, wq393, wq16, wq394, by decide +kernel⟩
theorem kVX0_spendSteam : fkV RX0 yX0_spendSteam cX0_spendSteam 1 (none : Option Jvm.ClassFile.FieldType) 0 := ⟨wq396, wq397, wq22, wq398, by decide +kernel⟩
theorem kVX2_burnAMinute : fkV RX2 yX2_burnAMinute cX2_burnAMinute 1 (none : Option Jvm.ClassFile.FieldType) 0 := ⟨wq400, wq401, wq16, wq402, by decide +kernel⟩
theorem kVX2_endFire : fkV RX2 yX2_endFire cX2_endFire 2 (none : Option Jvm.ClassFile.FieldType) 1 := ⟨wq406, ws12, wq16, wq407, by decide +kernel⟩
theorem kVX4_catchFire : fkV RX4 yX4_catchFire cX4_catchFire 4 (some .int) 0 := ⟨wq411, ws13, wq3, wq412, by decide +kernel⟩
theorem kVX4_heatNear : fkV RX4 yX4_heatNear cX4_heatNear 5 (some .int) 1 := ⟨wq414, wq415, wq3, wq416, by decide +kernel⟩
theorem kVX5_walls : fkV RX5 yX5_walls cX5_walls 4 (some .double) 0 := ⟨wq418, wq419, wq1, wq420, by decide +kernel⟩
theorem kVX5_digest : fkV RX5 yX5_digest cX5_digest 5 (some .long) 0 := ⟨wq425, wq426, wq1, wq427, by decide +kernel⟩
theorem kVX4_tell : fkV RX4 yX4_tell cX4_tell 2 (some .int) 1 := ⟨wq431, wq432, wq3, wq433, by decide +kernel⟩
theorem kVX4_waterOfPonds : fkV RX4 yX4_waterOfPonds cX4_waterOfPonds 3 (some .int) 0 := ⟨wq437, ws14, wq3, wq438, by decide +kernel⟩
theorem kVX4_sumOverHouses : fkV RX4 yX4_sumOverHouses cX4_sumOverHouses 4 (some .int) 1 := ⟨wq441, ws15, wq3, wq442, by decide +kernel⟩
theorem kVX2_tell : fkV RX2 yX2_tell cX2_tell 2 (some .int) 1 := ⟨wq444, wq445, wq16, wq446, by decide +kernel⟩
theorem kVX4_tellEngine : fkV RX4 yX4_tellEngine cX4_tellEngine 3 (some .int) 2 := ⟨wq451, wq452, wq3, wq453, by decide +kernel⟩
theorem kVX5_build : fkV RX5 yX5_build cX5_build 7 (some .int) 4 := ⟨wq461, wq462, wq1, wq463, by decide +kernel⟩
theorem kSX5_requireCell : fkS yX5_requireCell cX5_requireCell 2 (none : Option Jvm.ClassFile.FieldType) 2 := ⟨wq465, wq1, wq466, by decide +kernel⟩
theorem kSX5_isOnMap : fkS yX5_isOnMap cX5_isOnMap 2 (some .boolean) 2 := ⟨wq468, wq1, wq469, by decide +kernel⟩
theorem kSX5_requireRange : fkS yX5_requireRange cX5_requireRange 3 (none : Option Jvm.ClassFile.FieldType) 3 := ⟨wq539, wq1, wq540, by decide +kernel⟩
theorem kSX5_cellAt : fkS yX5_cellAt cX5_cellAt 2 (some .int) 2 := ⟨wq558, wq1, wq559, by decide +kernel⟩
theorem kVX5_isFree : fkV RX5 yX5_isFree cX5_isFree 2 (some .boolean) 1 := ⟨wq562, ws17, wq1, wq563, by decide +kernel⟩
theorem kVX1_isStreet : fkV RX1 yX1_isStreet cX1_isStreet 2 (some .boolean) 1 := ⟨wq565, wq566, wq2, wq567, by decide +kernel⟩
theorem kVX1_kindOf : fkV RX1 yX1_kindOf cX1_kindOf 2 (some .int) 1 := ⟨wq569, wq570, wq2, wq571, by decide +kernel⟩
theorem kVX4_enginesOn : fkV RX4 yX4_enginesOn cX4_enginesOn 4 (some .int) 1 := ⟨wq573, wq574, wq3, wq575, by decide +kernel⟩
theorem kVX4_isGoal : fkV RX4 yX4_isGoal cX4_isGoal 3 (some .boolean) 1 := ⟨wq577, wq578, wq3, wq579, by decide +kernel⟩
theorem kSX5_requireState : fkS yX5_requireState cX5_requireState 1 (none : Option Jvm.ClassFile.FieldType) 1 := ⟨wq581, wq1, wq582, by decide +kernel⟩
theorem kVX1_put : fkV RX1 yX1_put cX1_put 4 (none : Option Jvm.ClassFile.FieldType) 3 := ⟨wq602, wq603, wq2, wq604, by decide +kernel⟩
theorem kVX5_dig : fkV RX5 yX5_dig cX5_dig 6 (some .int) 3 := ⟨wq610, wq611, wq1, wq612, by decide +kernel⟩
theorem kVX5_light : fkV RX5 yX5_light cX5_light 4 (some .int) 2 := ⟨wq618, wq619, wq1, wq620, by decide +kernel⟩
theorem kVX5_requireHouse : fkV RX5 yX5_requireHouse cX5_requireHouse 2 (none : Option Jvm.ClassFile.FieldType) 1 := ⟨wq623, ws18, wq1, wq624, by decide +kernel⟩
theorem kVX2_catchFire : fkV RX2 yX2_catchFire cX2_catchFire 2 (none : Option Jvm.ClassFile.FieldType) 1 := ⟨wq627, wq628, wq16, wq629, by decide +kernel⟩
theorem kVX5_cell : fkV RX5 yX5_cell cX5_cell 5 (some .int) 3 := ⟨wq634, wq635, wq1, wq636, by decide +kernel⟩
theorem kSX5_requireQuestion : fkS yX5_requireQuestion cX5_requireQuestion 2 (none : Option Jvm.ClassFile.FieldType) 2 := ⟨wq638, wq1, wq639, by decide +kernel⟩
theorem kVX1_numberOf : fkV RX1 yX1_numberOf cX1_numberOf 2 (some .int) 1 := ⟨wq643, wq644, wq2, wq645, by decide +kernel⟩
theorem kVX5_house : fkV RX5 yX5_house cX5_house 3 (some .int) 2 := ⟨wq651, wq652, wq1, wq653, by decide +kernel⟩
theorem kVX5_addEngine : fkV RX5 yX5_addEngine cX5_addEngine 7 (some .int) 4 := ⟨wq658, wq659, wq1, wq660, by decide +kernel⟩
theorem kVX5_stoke : fkV RX5 yX5_stoke cX5_stoke 4 (some .int) 2 := ⟨wq666, wq667, wq1, wq668, by decide +kernel⟩
theorem kVX5_requireEngine : fkV RX5 yX5_requireEngine cX5_requireEngine 2 (none : Option Jvm.ClassFile.FieldType) 1 := ⟨wq671, ws19, wq1, wq672, by decide +kernel⟩
theorem kVX5_drive : fkV RX5 yX5_drive cX5_drive 7 (some .int) 3 := ⟨wq678, wq679, wq1, wq680, by decide +kernel⟩
theorem kVX1_stepsBetween : fkV RX1 yX1_stepsBetween cX1_stepsBetween 5 (some .int) 2 := ⟨wq683, wq684, wq2, wq685, by decide +kernel⟩
theorem kSJ7_fill_53178 : fkS yJ7_fill_53178 cJ7_fill_53178 4 (none : Option Jvm.ClassFile.FieldType) 2 := ⟨wq687, wq19, wq688, by decide +kernel⟩
theorem kVX1_spread : fkV RX1 yX1_spread cX1_spread 6 (some .int) 1 := ⟨wq691, ws20, wq2, wq692, by decide +kernel⟩
theorem kVX1_enter : fkV RX1 yX1_enter cX1_enter 5 (some .int) 3 := ⟨wq695, ws21, wq2, wq696, by decide +kernel⟩
theorem kVX4_takeUpHosesOfAndTo : fkV RX4 yX4_takeUpHosesOfAndTo cX4_takeUpHosesOfAndTo 4 (none : Option Jvm.ClassFile.FieldType) 1 := ⟨wq700, wq701, wq3, wq702, by decide +kernel⟩
theorem kVX0_setOut : fkV RX0 yX0_setOut cX0_setOut 3 (none : Option Jvm.ClassFile.FieldType) 2 := ⟨wq704, wq705, wq22, wq706, by decide +kernel⟩
theorem kVX5_relay : fkV RX5 yX5_relay cX5_relay 6 (some .int) 2 := ⟨wq711, wq712, wq1, wq713, by decide +kernel⟩
theorem kVX4_hosesLead : fkV RX4 yX4_hosesLead cX4_hosesLead 5 (some .boolean) 2 := ⟨wq716, wq717, wq3, wq718, by decide +kernel⟩
theorem kVX5_aim : fkV RX5 yX5_aim cX5_aim 5 (some .int) 2 := ⟨wq723, wq724, wq1, wq725, by decide +kernel⟩
theorem kVX5_takeUp : fkV RX5 yX5_takeUp cX5_takeUp 4 (some .boolean) 1 := ⟨wq730, wq731, wq1, wq732, by decide +kernel⟩
theorem kVX5_engine : fkV RX5 yX5_engine cX5_engine 3 (some .int) 2 := ⟨wq737, wq738, wq1, wq739, by decide +kernel⟩
theorem kVX5_pond : fkV RX5 yX5_pond cX5_pond 2 (some .int) 1 := ⟨wq744, wq745, wq1, wq746, by decide +kernel⟩
theorem kVX5_pass : fkV RX5 yX5_pass cX5_pass 2 (some .int) 1 := ⟨wq752, wq753, wq1, wq754, by decide +kernel⟩
theorem kVX5_count : fkV RX5 yX5_count cX5_count 2 (some .int) 1 := ⟨wq759, wq760, wq1, wq761, by decide +kernel⟩
theorem kVX5_foresee : fkV RX5 yX5_foresee cX5_foresee 3 (some .int) 2 := ⟨wq766, wq767, wq1, wq768, by decide +kernel⟩
theorem kVX5_weakest : fkV RX5 yX5_weakest cX5_weakest 7 (some .int) 1 := ⟨wq773, wq774, wq1, wq775, by decide +kernel⟩
theorem kVX5_advise : fkV RX5 yX5_advise cX5_advise 10 (some .int) 2 := ⟨wq781, wq782, wq1, wq783, by decide +kernel⟩
theorem kVX5_fallenIfAimed : fkV RX5 yX5_fallenIfAimed cX5_fallenIfAimed 4 (some .int) 3 := ⟨wq786, ws22, wq1, wq787, by decide +kernel⟩
theorem kIX6_init : fkI yX6_init cX6_init 1 0 := ⟨wq791, wq7, wq792, rfl, by decide +kernel⟩
theorem kVX6_thrown : fkV RX6 yX6_thrown cX6_thrown 1 (some .int) 0 := ⟨wq836, wq837, wq7, wq838, by decide +kernel⟩
theorem kVX6_build : fkV RX6 yX6_build cX6_build 6 (some .int) 4 := ⟨wq840, wq841, wq7, wq842, by decide +kernel⟩
theorem kSX6_isCell : fkS yX6_isCell cX6_isCell 2 (some .boolean) 2 := ⟨wq844, wq7, wq845, by decide +kernel⟩
theorem kSX6_isIn : fkS yX6_isIn cX6_isIn 3 (some .boolean) 3 := ⟨wq847, wq7, wq848, by decide +kernel⟩
theorem kVX6_fail : fkV RX6 yX6_fail cX6_fail 2 (some .int) 1 := ⟨wq851, ws23, wq7, wq852, by decide +kernel⟩
theorem kVX6_isFree : fkV RX6 yX6_isFree cX6_isFree 4 (some .boolean) 1 := ⟨wq855, ws24, wq7, wq856, by decide +kernel⟩
theorem kVX6_isStreet : fkV RX6 yX6_isStreet cX6_isStreet 2 (some .boolean) 1 := ⟨wq859, ws25, wq7, wq860, by decide +kernel⟩
theorem kVX6_houseAt : fkV RX6 yX6_houseAt cX6_houseAt 3 (some .int) 1 := ⟨wq863, ws26, wq7, wq864, by decide +kernel⟩
theorem kVX6_ho : fkV RX6 yX6_ho cX6_ho 3 (some .int) 2 := ⟨wq867, ws27, wq7, wq868, by decide +kernel⟩
theorem kVX6_pondAt : fkV RX6 yX6_pondAt cX6_pondAt 3 (some .int) 1 := ⟨wq871, ws28, wq7, wq872, by decide +kernel⟩
theorem kVX6_en : fkV RX6 yX6_en cX6_en 3 (some .int) 2 := ⟨wq875, ws29, wq7, wq876, by decide +kernel⟩
theorem kVX6_dig : fkV RX6 yX6_dig cX6_dig 4 (some .int) 3 := ⟨wq879, wq880, wq7, wq881, by decide +kernel⟩
theorem kVX6_light : fkV RX6 yX6_light cX6_light 3 (some .int) 2 := ⟨wq883, wq884, wq7, wq885, by decide +kernel⟩
theorem kVX6_isHouse : fkV RX6 yX6_isHouse cX6_isHouse 2 (some .boolean) 1 := ⟨wq888, ws30, wq7, wq889, by decide +kernel⟩
theorem kVX6_setHo : fkV RX6 yX6_setHo cX6_setHo 4 (none : Option Jvm.ClassFile.FieldType) 3 := ⟨wq892, ws31, wq7, wq893, by decide +kernel⟩
theorem kVX6_with : fkV RX6 yX6_with cX6_with 4 (some .int) 1 := ⟨wq896, ws32, wq7, wq897, by decide +kernel⟩
theorem kVX6_cell : fkV RX6 yX6_cell cX6_cell 7 (some .int) 3 := ⟨wq899, wq900, wq7, wq901, by decide +kernel⟩
theorem kVX6_heatNear : fkV RX6 yX6_heatNear cX6_heatNear 4 (some .int) 1 := ⟨wq904, ws33, wq7, wq905, by decide +kernel⟩
theorem kSX6_isNear : fkS yX6_isNear cX6_isNear 2 (some .boolean) 2 := ⟨wq907, wq7, wq908, by decide +kernel⟩
theorem kSX6_columns : fkS yX6_columns cX6_columns 2 (some .int) 2 := ⟨wq910, wq7, wq911, by decide +kernel⟩
theorem kSX6_rows : fkS yX6_rows cX6_rows 2 (some .int) 2 := ⟨wq914, wq7, wq915, by decide +kernel⟩
theorem kVX6_house : fkV RX6 yX6_house cX6_house 3 (some .int) 2 := ⟨wq917, wq918, wq7, wq919, by decide +kernel⟩
theorem kVX6_addEngine : fkV RX6 yX6_addEngine cX6_addEngine 6 (some .int) 4 := ⟨wq921, wq922, wq7, wq923, by decide +kernel⟩
theorem kVX6_stoke : fkV RX6 yX6_stoke cX6_stoke 3 (some .int) 2 := ⟨wq925, wq926, wq7, wq927, by decide +kernel⟩
theorem kVX6_isEngine : fkV RX6 yX6_isEngine cX6_isEngine 2 (some .boolean) 1 := ⟨wq930, ws34, wq7, wq931, by decide +kernel⟩
theorem kVX6_setEn : fkV RX6 yX6_setEn cX6_setEn 4 (none : Option Jvm.ClassFile.FieldType) 3 := ⟨wq934, ws35, wq7, wq935, by decide +kernel⟩
theorem kVX6_drive : fkV RX6 yX6_drive cX6_drive 6 (some .int) 3 := ⟨wq937, wq938, wq7, wq939, by decide +kernel⟩
theorem kVX6_way : fkV RX6 yX6_way cX6_way 6 (some .int) 2 := ⟨wq942, ws36, wq7, wq943, by decide +kernel⟩
theorem kVX6_relay : fkV RX6 yX6_relay cX6_relay 4 (some .int) 2 := ⟨wq945, wq946, wq7, wq947, by decide +kernel⟩
theorem kSX6_far : fkS yX6_far cX6_far 2 (some .int) 2 := ⟨wq949, wq7, wq950, by decide +kernel⟩
theorem kVX6_stands : fkV RX6 yX6_stands cX6_stands 2 (some .boolean) 1 := ⟨wq953, ws37, wq7, wq954, by decide +kernel⟩
theorem kVX6_leads : fkV RX6 yX6_leads cX6_leads 4 (some .boolean) 2 := ⟨wq957, ws38, wq7, wq958, by decide +kernel⟩
theorem kVX6_aim : fkV RX6 yX6_aim cX6_aim 4 (some .int) 2 := ⟨wq960, wq961, wq7, wq962, by decide +kernel⟩
theorem kVX6_takeUp : fkV RX6 yX6_takeUp cX6_takeUp 3 (some .boolean) 1 := ⟨wq964, wq965, wq7, wq966, by decide +kernel⟩
theorem kVX6_engine : fkV RX6 yX6_engine cX6_engine 3 (some .int) 2 := ⟨wq968, wq969, wq7, wq970, by decide +kernel⟩
theorem kVX6_engineTold : fkV RX6 yX6_engineTold cX6_engineTold 3 (some .int) 2 := ⟨wq973, ws39, wq7, wq974, by decide +kernel⟩
theorem kVX6_source : fkV RX6 yX6_source cX6_source 3 (some .int) 1 := ⟨wq977, ws40, wq7, wq978, by decide +kernel⟩
theorem kVX6_canPump : fkV RX6 yX6_canPump cX6_canPump 2 (some .int) 1 := ⟨wq981, ws41, wq7, wq982, by decide +kernel⟩
theorem kVX6_pond : fkV RX6 yX6_pond cX6_pond 2 (some .int) 1 := ⟨wq984, wq985, wq7, wq986, by decide +kernel⟩
theorem kVX6_pass : fkV RX6 yX6_pass cX6_pass 4 (some .int) 1 := ⟨wq988, wq989, wq7, wq990, by decide +kernel⟩
theorem kVX6_minuteOn : fkV RX6 yX6_minuteOn cX6_minuteOn 3 (some .int) 0 := ⟨wq993, ws42, wq7, wq994, by decide +kernel⟩
theorem kVX6_pumpAll : fkV RX6 yX6_pumpAll cX6_pumpAll 2 (none : Option Jvm.ClassFile.FieldType) 0 := ⟨wq999, ws43, wq7, wq1000, by decide +kernel⟩
theorem kVX6_next : fkV RX6 yX6_next cX6_next 4 (some .int) 0 := ⟨wq1003, ws44, wq7, wq1004, by decide +kernel⟩
theorem kVX6_pump : fkV RX6 yX6_pump cX6_pump 10 (none : Option Jvm.ClassFile.FieldType) 1 := ⟨wq1007, ws45, wq7, wq1008, by decide +kernel⟩
theorem kVX6_burn : fkV RX6 yX6_burn cX6_burn 3 (none : Option Jvm.ClassFile.FieldType) 1 := ⟨wq1011, ws46, wq7, wq1012, by decide +kernel⟩
theorem kVX6_count : fkV RX6 yX6_count cX6_count 2 (some .int) 1 := ⟨wq1014, wq1015, wq7, wq1016, by decide +kernel⟩
theorem kVX6_counted : fkV RX6 yX6_counted cX6_counted 4 (some .int) 1 := ⟨wq1019, ws47, wq7, wq1020, by decide +kernel⟩
theorem kVX6_foresee : fkV RX6 yX6_foresee cX6_foresee 5 (some .int) 2 := ⟨wq1022, wq1023, wq7, wq1024, by decide +kernel⟩
theorem kVX6_kept : fkV RX6 yX6_kept cX6_kept 1 (some (.array (.array .int))) 0 := ⟨wq1027, ws48, wq7, wq1028, by decide +kernel⟩
theorem kVX6_bringBack : fkV RX6 yX6_bringBack cX6_bringBack 4 (none : Option Jvm.ClassFile.FieldType) 1 := ⟨wq1039, ws49, wq7, wq1040, by decide +kernel⟩
theorem kVX6_lasts : fkV RX6 yX6_lasts cX6_lasts 3 (some .int) 0 := ⟨wq1042, wq1043, wq7, wq1044, by decide +kernel⟩
theorem kVX6_weakest : fkV RX6 yX6_weakest cX6_weakest 4 (some .int) 1 := ⟨wq1046, wq1047, wq7, wq1048, by decide +kernel⟩
theorem kVX6_advise : fkV RX6 yX6_advise cX6_advise 8 (some .int) 2 := ⟨wq1050, wq1051, wq7, wq1052, by decide +kernel⟩
theorem kVX6_walls : fkV RX6 yX6_walls cX6_walls 3 (some .double) 0 := ⟨wq1054, wq1055, wq7, wq1056, by decide +kernel⟩
theorem kVX6_digest : fkV RX6 yX6_digest cX6_digest 5 (some .long) 0 := ⟨wq1058, wq1059, wq7, wq1060, by decide +kernel⟩
end
section
/-! contracts with one known end; lists; cells' contents -/
def bI (b : Bool) : Int32 := if b then 1 else 0
theorem bI_f {b : Bool} : bI b = 0 ↔ b = false := by cases b <;> simp [bI]
theorem bI_nf {b : Bool} : ¬ bI b = 0 ↔ b = true := by cases b <;> simp [bI]
theorem bI_t : bI true = 1 := rfl
theorem bI_ff : bI false = 0 := rfl
theorem bI_nar (b : Bool) : narrow .boolean (.int (bI b)) = .int (bI b) := by cases b <;> rfl
theorem bI_fit (b : Bool) : fits .boolean (.int (bI b)) = true := by cases b <;> rfl
theorem bI_and (b : Bool) : bI b &&& 1 = bI b := by cases b <;> rfl
abbrev fQi (g : fG) (post : Int32 → (Nat → Nat) → fM → Prop) : Array Value → State → Outcome → State → Prop := va_Qi (fun (r : Int32) (u : (Nat → Nat) × fM) => post r u.1 u.2) (fun u t => fh g u.1 u.2 t.heap) (fA g)
abbrev fQl (g : fG) (post : Int64 → (Nat → Nat) → fM → Prop) : Array Value → State → Outcome → State → Prop := va_Ql (fun (r : Int64) (u : (Nat → Nat) × fM) => post r u.1 u.2) (fun u t => fh g u.1 u.2 t.heap) (fA g)
abbrev fQv (g : fG) (post : (Nat → Nat) → fM → Prop) : Array Value → State → Outcome → State → Prop := va_Qv (fun (u : (Nat → Nat) × fM) => post u.1 u.2) (fun u t => fh g u.1 u.2 t.heap) (fA g)
abbrev fQr (g : fG) (post : Nat → (Nat → Nat) → fM → Prop) : Array Value → State → Outcome → State → Prop := va_Qr (fun (u : Nat × (Nat → Nat) × fM) => post u.1 u.2.1 u.2.2) (fun u a t => a = u.1 ∧ fh g u.2.1 u.2.2 t.heap) (fA g)
abbrev fDi (ad : Nat → Nat) (M : fM) (v : Int32) : Int32 → (Nat → Nat) → fM → Prop := fun r ad1 M1 => ad1 = ad ∧ M1 = M ∧ r = v
abbrev fDl (ad : Nat → Nat) (M : fM) (v : Int64) : Int64 → (Nat → Nat) → fM → Prop := fun r ad1 M1 => ad1 = ad ∧ M1 = M ∧ r = v
abbrev fDv (ad : Nat → Nat) (M : fM) : (Nat → Nat) → fM → Prop := fun ad1 M1 => ad1 = ad ∧ M1 = M
abbrev fDr (ad : Nat → Nat) (M : fM) (q : Nat) : Nat → (Nat → Nat) → fM → Prop := fun r ad1 M1 => ad1 = ad ∧ M1 = M ∧ r = q
abbrev fCi (l : Launch) (g : fG) (y : MethodName) (cc : ByteArray) (maxL : Nat) (ret : Option FieldType) (fr lo mc ms : Nat) (ad : Nat → Nat) (M : fM) (av : List Value) (post : Int32 → (Nat → Nat) → fM → Prop) : Prop := Met l y (fWs y cc maxL ret) (fR fr lo mc ms) (va_Pc av (fS g ad M)) (fQi g post) mc ms (fA g)
abbrev fCl (l : Launch) (g : fG) (y : MethodName) (cc : ByteArray) (maxL : Nat) (ret : Option FieldType) (fr lo mc ms : Nat) (ad : Nat → Nat) (M : fM) (av : List Value) (post : Int64 → (Nat → Nat) → fM → Prop) : Prop := Met l y (fWs y cc maxL ret) (fR fr lo mc ms) (va_Pc av (fS g ad M)) (fQl g post) mc ms (fA g)
abbrev fCv (l : Launch) (g : fG) (y : MethodName) (cc : ByteArray) (maxL : Nat) (fr lo mc ms : Nat) (ad : Nat → Nat) (M : fM) (av : List Value) (post : (Nat → Nat) → fM → Prop) : Prop := Met l y (fWs y cc maxL none) (fR fr lo mc ms) (va_Pc av (fS g ad M)) (fQv g post) mc ms (fA g)
abbrev fCr (l : Launch) (g : fG) (y : MethodName) (cc : ByteArray) (maxL : Nat) (ret : Option FieldType) (fr lo mc ms : Nat) (ad : Nat → Nat) (M : fM) (av : List Value) (post : Nat → (Nat → Nat) → fM → Prop) : Prop := Met l y (fWs y cc maxL ret) (fR fr lo mc ms) (va_Pc av (fS g ad M)) (fQr g post) mc ms (fA g)
section FDET
variable {p : Program} {l : Launch} {e : Env} {R : Room} {s : State} {m : MethodId} {args : Array Value} {below : List Frame} {meth : Method} {c : Code} {H : Heap} {locs : List Loc} {cells slots : Nat} {Q : State → Prop}
variable {cc : ByteArray} {nL : Nat} {ret : Option FieldType} {own : String} {g : fG} {ad : Nat → Nat} {M : fM} {pc : Nat} {ls : Array Slot} {rest : List Value} {lb q9 : Nat} {st0 : List Value} {a : Array Value} {mc ms : Nat}
theorem fk_di {ad2 : Nat → Nat} {M2 : fM} {v : Int32} (hr : va_Run p l e R s m args below meth c H locs cells slots mc ms (F0 m pc ls st0) rest (fQi g (fDi ad2 M2 v) a) (fA g)) (hw : fw g ad M s H locs)
    (kk : ∀ (H1 : Heap) (locs1 : List Loc), fw g ad2 M2 s H1 locs1 → W p l e R s m args below meth c H1 locs1 (cells + mc) (slots + ms) Q (F0 m (pc + 3) ls (.int v :: rest))) : W p l e R s m args below meth c H locs cells slots Q (F0 m pc ls st0) :=
  fk_i hr hw (fun r ad1 M1 H1 locs1 hp hw1 => by obtain ⟨e1, e2, e3⟩ := hp; rw [e3]; rw [e1, e2] at hw1; exact kk H1 locs1 hw1)
theorem fk_dl {ad2 : Nat → Nat} {M2 : fM} {v : Int64} (hr : va_Run p l e R s m args below meth c H locs cells slots mc ms (F0 m pc ls st0) rest (fQl g (fDl ad2 M2 v) a) (fA g)) (hw : fw g ad M s H locs)
    (kk : ∀ (H1 : Heap) (locs1 : List Loc), fw g ad2 M2 s H1 locs1 → W p l e R s m args below meth c H1 locs1 (cells + mc) (slots + ms) Q (F0 m (pc + 3) ls (.long v :: rest))) : W p l e R s m args below meth c H locs cells slots Q (F0 m pc ls st0) :=
  fk_l hr hw (fun r ad1 M1 H1 locs1 hp hw1 => by obtain ⟨e1, e2, e3⟩ := hp; rw [e3]; rw [e1, e2] at hw1; exact kk H1 locs1 hw1)
theorem fk_dv {ad2 : Nat → Nat} {M2 : fM} (hr : va_Run p l e R s m args below meth c H locs cells slots mc ms (F0 m pc ls st0) rest (fQv g (fDv ad2 M2) a) (fA g)) (hw : fw g ad M s H locs)
    (kk : ∀ (H1 : Heap) (locs1 : List Loc), fw g ad2 M2 s H1 locs1 → W p l e R s m args below meth c H1 locs1 (cells + mc) (slots + ms) Q (F0 m (pc + 3) ls rest)) : W p l e R s m args below meth c H locs cells slots Q (F0 m pc ls st0) :=
  fk_v hr hw (fun ad1 M1 H1 locs1 hp hw1 => by obtain ⟨e1, e2⟩ := hp; rw [e1, e2] at hw1; exact kk H1 locs1 hw1)
theorem fk_dr {ad2 : Nat → Nat} {M2 : fM} {v : Nat} (hr : va_Run p l e R s m args below meth c H locs cells slots mc ms (F0 m pc ls st0) rest (fQr g (fDr ad2 M2 v) a) (fA g)) (hw : fw g ad M s H locs)
    (kk : ∀ (H1 : Heap) (locs1 : List Loc), fw g ad2 M2 s H1 locs1 → W p l e R s m args below meth c H1 locs1 (cells + mc) (slots + ms) Q (F0 m (pc + 3) ls (.ref v :: rest))) : W p l e R s m args below meth c H locs cells slots Q (F0 m pc ls st0) :=
  fk_r hr hw (fun r ad1 M1 H1 locs1 hp hw1 => by obtain ⟨e1, e2, e3⟩ := hp; rw [e3]; rw [e1, e2] at hw1; exact kk H1 locs1 hw1)
theorem f_cast (X : fX p s m args meth c cc nL ret own g) (hw : fw g ad M s H locs) {ci index : Nat} {C : String} {T : u_T} {N : Nat} {ty : Nat → FieldType} {fs : List Value} (hM : M lb = some (.inr (ci, fs))) (hc : fcl ci C T N ty) (hlink : Cond.classLink own index C ∈ AL) (hdg : decode cc pc = .ok (.checkcast index, 3))
    (kk : W p l e R s m args below meth c H locs cells slots Q (F0 m (pc + 3) ls (.ref (ad lb) :: rest))) : W p l e R s m args below meth c H locs cells slots Q (F0 m pc ls (.ref (ad lb) :: rest)) := by
  obtain ⟨hx, hb, hml, hown, hts, hK, hz, hr, hlk⟩ := id X
  exact va_castS hx hb hown (hts _ hlink) (hK.1.1 ci _ hc.1).2 (f_recv X hw hM hc.1) hdg kk
theorem f_aald (X : fX p s m args meth c cc nL ret own g) (hw : fw g ad M s H locs) {n : Nat} {f : Nat → Option Nat} (hM : M lb = some (.inl (gO g, n, .inr (.inr (.inr (.inr f)))))) {i : Int32} (hin : vp_in i n) {q : Nat} (hf : f i.toNatClampNeg = some q) (hdg : decode cc pc = .ok (.aaload, 1))
    (kk : W p l e R s m args below meth c H locs cells slots Q (F0 m (pc + 1) ls (.ref q :: rest))) : W p l e R s m args below meth c H locs cells slots Q (F0 m pc ls (.int i :: .ref (ad lb) :: rest)) := by
  obtain ⟨hx, hb, hml, hown, hts, hK, hz, hr, hlk⟩ := id X
  refine va_aldq hx hb hK.1 (f_single (hw.1.2.2.1 lb _ hM).2) 0 2 rfl rfl hin hdg ?_
  rw [hf]
  exact kk
theorem f_top {x y : Int32} (h : x = y) (k : W p l e R s m args below meth c H locs cells slots Q (F0 m pc ls (.int y :: rest))) : W p l e R s m args below meth c H locs cells slots Q (F0 m pc ls (.int x :: rest)) := h ▸ k
end FDET
theorem fU_same {M : fM} {l : Nat} {e : va_E} (h : M l = some e) : fU M l e = M := by funext k; unfold fU; by_cases hk : k = l <;> simp [hk, h]
abbrev hV (f : Nat → Int32) : List Value := [.int (f 0), .int (f 1), .int (f 2), .int (f 3), .int (f 4), .int (f 5), .int (f 6)]
abbrev pV (f : Nat → Int32) : List Value := [.int (f 0), .int (f 1)]
abbrev eV (f : Nat → Int32) : List Value := [.int (f 0), .int (f 1), .int (f 2), .int (f 3), .int (f 4), .int (f 5), .int (f 6), .int (f 7), .int (f 8), .int (f 9), .int (f 10)]
/-- a list object at the label ll, its array at la, its n elements at eb, eb + 1 .. -/
def fList (g : fG) (ad : Nat → Nat) (M : fM) (ll la eb n : Nat) : Prop := ∃ (mo : Int32) (d N : Nat) (f : Nat → Option Nat), M ll = some (.inr (0, [.int mo, .ref d, .int (nI n)])) ∧ n ≤ 1000 ∧
  ((d = gE g ∧ n = 0) ∨ (d = ad la ∧ M la = some (.inl (gO g, N, .inr (.inr (.inr (.inr f))))) ∧ n ≤ N ∧ 10 ≤ N ∧ N ≤ 43 ∧ ∀ i, i < n → f i = some (ad (eb + i))))
theorem f_tout {x : Int32} {lo hi : Int} (h : ∀ k : Int, lo ≤ k → k ≤ hi → ¬ x = Int32.ofInt k) : x.toInt < lo ∨ hi < x.toInt := by
  by_cases a : x.toInt < lo
  · exact Or.inl a
  · by_cases b : hi < x.toInt
    · exact Or.inr b
    · exact absurd (Int32.ofInt_toInt x).symm (h x.toInt (by omega) (by omega))
/-! WHAT ONE HOUSE, POND, ENGINE DOES -/
def hTell (f : Nat → Int32) (w : Int32) : Int32 := if w = 0 then f 0 else if w = 1 then f 1 else if w = 2 then f 2 else if w = 3 then f 3 else if w = 4 then f 4 else if w = 5 then f 5 else f 6
def iMin (x y : Int32) : Int32 := if y < x then y else x
def iMax (x y : Int32) : Int32 := if x < y then y else x
/-- a house's minute by the fire: heat, walls -/
def hBurn (f : Nat → Int32) : Nat → Int32 :=
  if f 3 = 1 then
    if 0 < iMin 99 (f 4 + f 1 - f 5 / 4) then
      if iMax 0 (f 2 - 1 - iMin 99 (f 4 + f 1 - f 5 / 4) / 25) = 0 then upd (upd (upd (upd f 4 (iMin 99 (f 4 + f 1 - f 5 / 4))) 2 (iMax 0 (f 2 - 1 - iMin 99 (f 4 + f 1 - f 5 / 4) / 25))) 3 3) 4 0
      else upd (upd f 4 (iMin 99 (f 4 + f 1 - f 5 / 4))) 2 (iMax 0 (f 2 - 1 - iMin 99 (f 4 + f 1 - f 5 / 4) / 25))
    else upd (upd (upd f 4 (iMin 99 (f 4 + f 1 - f 5 / 4))) 3 2) 4 0
  else f
def eStands (f : Nat → Int32) : Bool := decide (f 5 = 0)
def ePump (f : Nat → Int32) : Int32 := if eStands f = true then (if 20 ≤ f 4 then f 2 * f 4 / 20 else 0) else 0
def eFire (f : Nat → Int32) : Nat → Int32 := if f 3 ≤ 0 then upd f 4 (iMax 0 (f 4 - 3)) else upd (upd f 3 (f 3 - 1)) 4 (iMin 100 (f 4 + 4))
def eDrive (f : Nat → Int32) : Nat → Int32 := if eStands f = true then f else if f 5 - 1 = 0 then upd (upd (upd f 5 (f 5 - 1)) 0 (f 6)) 6 (-1) else upd f 5 (f 5 - 1)
def eSpend (f : Nat → Int32) : Nat → Int32 := if f 9 ≤ 0 then f else upd f 4 (iMax 0 (f 4 - 2))
def eSetOut (f : Nat → Int32) (goal steps : Int32) : Nat → Int32 := upd (upd f 6 goal) 5 (steps * (5 - f 1))
def pGive (f : Nat → Int32) (w : Int32) : Int32 := iMax 0 (iMin w (f 1))
end
section
set_option maxHeartbeats 4000000 in
set_option maxRecDepth 100000 in
theorem c_ck3 (l : Launch) (g : fG) (ad : Nat → Nat) (M : fM) {i n : Int32} (h1 : ¬ i < 0) (h2 : i < n) : fCi l g yJ3_checkIndex_8e157 cJ3_checkIndex_8e157 3 ((some .int)) 0 0 0 0 ad M [.int i, .int n, .null] (fDi ad M i) := by
  refine f_body (own := RJ3) (by decide +kernel) rfl (Nat.le_of_ble_eq_true rfl) ?_
  intro p e s m args below meth c ls X hw hin hl
  have hx := X.1
  have hb := X.2.1
  have hl : lv_has ls 3 [(0, .int i), (1, .int n), (2, .null)] := hl
  refine lv_iload_n hx hb dJ3_checkIndex_8e157_0 rfl (lv_at hl 0 rfl) ?_
  refine lv_if_lt (tgt := 9) hx hb dJ3_checkIndex_8e157_1 (by decide) (fun c_1 => absurd c_1 h1) (fun c_1 => ?_)
  refine lv_iload_n hx hb dJ3_checkIndex_8e157_4 rfl (lv_at hl 0 rfl) ?_
  refine lv_iload_n hx hb dJ3_checkIndex_8e157_5 rfl (lv_at hl 1 rfl) ?_
  refine lv_icmp_lt (tgt := 16) hx hb dJ3_checkIndex_8e157_6 (by decide) (fun c_2 => ?_) (fun c_2 => absurd h2 c_2)
  refine lv_iload_n hx hb dJ3_checkIndex_8e157_16 rfl (lv_at hl 0 rfl) ?_
  exact f_iret X hw ⟨rfl, rfl, rfl⟩ (Nat.le_refl _) (Nat.le_refl _) dJ3_checkIndex_8e157_17
set_option maxHeartbeats 4000000 in
set_option maxRecDepth 100000 in
theorem c_ck2 (l : Launch) (g : fG) (ad : Nat → Nat) (M : fM) {i n : Int32} (h1 : ¬ i < 0) (h2 : i < n) : fCi l g yJ15_checkIndex_7cf53 cJ15_checkIndex_7cf53 2 ((some .int)) 1 22 0 0 ad M [.int i, .int n] (fDi ad M i) := by
  refine f_body (own := RJ15) (by decide +kernel) rfl (Nat.le_of_ble_eq_true rfl) ?_
  intro p e s m args below meth c ls X hw hin hl
  have hx := X.1
  have hb := X.2.1
  have hl : lv_has ls 2 [(0, .int i), (1, .int n)] := hl
  refine lv_iload_n hx hb dJ15_checkIndex_7cf53_0 rfl (lv_at hl 0 rfl) ?_
  refine lv_iload_n hx hb dJ15_checkIndex_7cf53_1 rfl (lv_at hl 1 rfl) ?_
  refine lv_null hx hb dJ15_checkIndex_7cf53_2 ?_
  refine fk_di (fcS X hw (c_ck3 l g ad M h1 h2) wq218 kSJ3_checkIndex_8e157 ⟨(Nat.le_of_ble_eq_true rfl), (Nat.le_of_ble_eq_true rfl)⟩ rfl hl.1 rfl (Nat.le_of_ble_eq_true rfl) dJ15_checkIndex_7cf53_3 ⟨Nat.le_refl _, Nat.le_refl _⟩) hw (fun H locs hw => ?_)
  exact f_iret X hw ⟨rfl, rfl, rfl⟩ (Nat.le_refl _) (Nat.le_refl _) dJ15_checkIndex_7cf53_6
set_option maxHeartbeats 4000000 in
set_option maxRecDepth 100000 in
theorem c_size (l : Launch) (g : fG) (ad : Nat → Nat) (M : fM) {ll la eb n : Nat} (h : fList g ad M ll la eb n) : fCi l g yJx4a65c_size_8abf5 cJx4a65c_size_8abf5 1 ((some .int)) 0 0 0 0 ad M [.ref (ad ll)] (fDi ad M (nI n)) := by
  refine f_body (own := RJx4a65c) (by decide +kernel) rfl (Nat.le_of_ble_eq_true rfl) ?_
  intro p e s m args below meth c ls X hw hin hl
  have hx := X.1
  have hb := X.2.1
  have hl : lv_has ls 1 [(0, .ref (ad ll))] := hl
  obtain ⟨mo, d9, N9, f9, h1, h2, h3⟩ := h
  refine lv_aload_n hx hb dJx4a65c_size_8abf5_0 rfl (lv_at hl 0 rfl) ?_
  refine f_get X hw h1 fc0 2 (by decide) wq69 rfl (v := .int (nI n)) rfl dJx4a65c_size_8abf5_1 ?_
  exact f_iret X hw ⟨rfl, rfl, rfl⟩ (Nat.le_refl _) (Nat.le_refl _) dJx4a65c_size_8abf5_4
set_option maxHeartbeats 4000000 in
set_option maxRecDepth 100000 in
theorem c_elementData (l : Launch) (g : fG) (ad : Nat → Nat) (M : fM) {ll la i N q9 : Nat} {mo z : Int32} {f : Nat → Option Nat} (h1 : M ll = some (.inr (0, [.int mo, .ref (ad la), .int z]))) (h2 : M la = some (.inl (gO g, N, .inr (.inr (.inr (.inr f)))))) (h3 : i < N) (h4 : N < 2 ^ 31) (h5 : f i = some q9) : fCr l g yJx4a65c_elementData_915e3 cJx4a65c_elementData_915e3 2 ((some (.object "java/lang/Object"))) 0 0 0 0 ad M [.ref (ad ll), .int (nI i)] (fDr ad M q9) := by
  refine f_body (own := RJx4a65c) (by decide +kernel) rfl (Nat.le_of_ble_eq_true rfl) ?_
  intro p e s m args below meth c ls X hw hin hl
  have hx := X.1
  have hb := X.2.1
  have hl : lv_has ls 2 [(0, .ref (ad ll)), (1, .int (nI i))] := hl
  refine lv_aload_n hx hb dJx4a65c_elementData_915e3_0 rfl (lv_at hl 0 rfl) ?_
  refine f_get X hw h1 fc0 1 (by decide) wq68 rfl (v := .ref (ad la)) rfl dJx4a65c_elementData_915e3_1 ?_
  refine lv_iload_n hx hb dJx4a65c_elementData_915e3_4 rfl (lv_at hl 1 rfl) ?_
  refine f_aald X hw h2 (vp_in_nI h3 h4) (by rw [nI_clamp (by omega)]; exact h5) dJx4a65c_elementData_915e3_5 ?_
  exact f_aret X rfl (Or.inl ⟨_, rfl⟩) hw ⟨rfl, rfl, rfl⟩ (Nat.le_refl _) (Nat.le_refl _) dJx4a65c_elementData_915e3_6
set_option maxHeartbeats 4000000 in
set_option maxRecDepth 100000 in
theorem c_get (l : Launch) (g : fG) (ad : Nat → Nat) (M : fM) {ll la eb n i : Nat} (h : fList g ad M ll la eb n) (hi : i < n) : fCr l g yJx4a65c_get_915e3 cJx4a65c_get_915e3 2 ((some (.object "java/lang/Object"))) 2 43 0 0 ad M [.ref (ad ll), .int (nI i)] (fDr ad M (ad (eb + i))) := by
  refine f_body (own := RJx4a65c) (by decide +kernel) rfl (Nat.le_of_ble_eq_true rfl) ?_
  intro p e s m args below meth c ls X hw hin hl
  have hx := X.1
  have hb := X.2.1
  have hl : lv_has ls 2 [(0, .ref (ad ll)), (1, .int (nI i))] := hl
  obtain ⟨mo, d9, N9, f9, h1, h2, h3⟩ := h
  rcases h3 with ⟨-, h3⟩ | ⟨rfl, h4, h5, h6, h7, h8⟩
  · omega
  refine lv_iload_n hx hb dJx4a65c_get_915e3_0 rfl (lv_at hl 1 rfl) ?_
  refine lv_aload_n hx hb dJx4a65c_get_915e3_1 rfl (lv_at hl 0 rfl) ?_
  refine f_get X hw h1 fc0 2 (by decide) wq69 rfl (v := .int (nI n)) rfl dJx4a65c_get_915e3_2 ?_
  refine fk_di (fcS X hw (c_ck2 l g ad M (nI_pos (by omega)) (nI_lt hi (by omega))) wq215 kSJ15_checkIndex_7cf53 ⟨(Nat.le_of_ble_eq_true rfl), (Nat.le_of_ble_eq_true rfl)⟩ rfl hl.1 rfl (Nat.le_of_ble_eq_true rfl) dJx4a65c_get_915e3_5 ⟨Nat.le_refl _, Nat.le_refl _⟩) hw (fun H locs hw => ?_)
  refine lv_pop hx hb dJx4a65c_get_915e3_8 rfl ?_
  refine lv_aload_n hx hb dJx4a65c_get_915e3_9 rfl (lv_at hl 0 rfl) ?_
  refine lv_iload_n hx hb dJx4a65c_get_915e3_10 rfl (lv_at hl 1 rfl) ?_
  refine fk_dr (fcV X hw (c_elementData l g ad M h1 h4 (by omega) (by omega) (h8 i hi)) h1 rfl wq221 kVJx4a65c_elementData_915e3 ⟨(Nat.le_of_ble_eq_true rfl), (Nat.le_of_ble_eq_true rfl)⟩ rfl hl.1 rfl (Nat.le_of_ble_eq_true rfl) dJx4a65c_get_915e3_11 ⟨Nat.le_refl _, Nat.le_refl _⟩) hw (fun H locs hw => ?_)
  exact f_aret X rfl (Or.inl ⟨_, rfl⟩) hw ⟨rfl, rfl, rfl⟩ (Nat.le_refl _) (Nat.le_refl _) dJx4a65c_get_915e3_14
end
section
set_option maxHeartbeats 4000000 in
set_option maxRecDepth 100000 in
theorem c_X2_init (l : Launch) (g : fG) (ad : Nat → Nat) (M : fM) {lb : Nat} {f : Nat → Int32} (hM : M lb = some (.inr (3, hV f))) (x w z : Int32) : fCv l g yX2_init cX2_init 4 1 12 0 0 ad M [.ref (ad lb), .int x, .int w, .int z] (fDv ad (fU M lb (.inr (3, hV (upd (upd (upd (upd f 0 x) 1 w) 2 z) 3 0))))) := by
  refine f_body (own := RX2) (by decide +kernel) rfl (Nat.le_of_ble_eq_true rfl) ?_
  intro p e s m args below meth c ls X hw hin hl
  have hx := X.1
  have hb := X.2.1
  have hl : lv_has ls 4 [(0, .ref (ad lb)), (1, .int x), (2, .int w), (3, .int z)] := hl
  refine lv_aload_n hx hb dX2_init_0 rfl (lv_at hl 0 rfl) ?_
  refine W.objInit hx hb X.2.2.2.1 (X.2.2.2.2.1 _ wq123) (X.2.2.2.2.1 _ wq29) (X.2.2.2.2.1 _ wq30) rfl (by rw [X.2.2.1]; exact hl.1) rfl dX2_init_1 (Nat.le_of_ble_eq_true rfl) (Nat.le_of_ble_eq_true rfl) ?_
  refine W.eq (g2 := F0 m 4 ls []) rfl ?_
  refine lv_aload_n hx hb dX2_init_4 rfl (lv_at hl 0 rfl) ?_
  refine lv_iload_n hx hb dX2_init_5 rfl (lv_at hl 1 rfl) ?_
  refine f_put X hw hM fc3 0 (by decide) wq124 rfl rfl (v := .int x) rfl rfl (Nat.le_of_ble_eq_true rfl) dX2_init_6 (fun H locs hw => ?_)
  have hw : fw g ad (fU M lb (.inr (3, hV (upd f 0 x)))) s H locs := hw
  have hM : (fU M lb (.inr (3, hV (upd f 0 x)))) lb = some (.inr (3, hV (upd f 0 x))) := fU_s
  refine lv_aload_n hx hb dX2_init_9 rfl (lv_at hl 0 rfl) ?_
  refine lv_iload_n hx hb dX2_init_10 rfl (lv_at hl 2 rfl) ?_
  refine f_put X hw hM fc3 1 (by decide) wq127 rfl rfl (v := .int w) rfl rfl (Nat.le_of_ble_eq_true rfl) dX2_init_11 (fun H locs hw => ?_)
  have hw : fw g ad (fU (fU M lb (.inr (3, hV (upd f 0 x)))) lb (.inr (3, hV (upd (upd f 0 x) 1 w)))) s H locs := hw
  rw [fU_U] at hw
  have hM : (fU M lb (.inr (3, hV (upd (upd f 0 x) 1 w)))) lb = some (.inr (3, hV (upd (upd f 0 x) 1 w))) := fU_s
  refine lv_aload_n hx hb dX2_init_14 rfl (lv_at hl 0 rfl) ?_
  refine lv_iload_n hx hb dX2_init_15 rfl (lv_at hl 3 rfl) ?_
  refine f_put X hw hM fc3 2 (by decide) wq128 rfl rfl (v := .int z) rfl rfl (Nat.le_of_ble_eq_true rfl) dX2_init_16 (fun H locs hw => ?_)
  have hw : fw g ad (fU (fU M lb (.inr (3, hV (upd (upd f 0 x) 1 w)))) lb (.inr (3, hV (upd (upd (upd f 0 x) 1 w) 2 z)))) s H locs := hw
  rw [fU_U] at hw
  have hM : (fU M lb (.inr (3, hV (upd (upd (upd f 0 x) 1 w) 2 z)))) lb = some (.inr (3, hV (upd (upd (upd f 0 x) 1 w) 2 z))) := fU_s
  refine lv_aload_n hx hb dX2_init_19 rfl (lv_at hl 0 rfl) ?_
  refine lv_iconst (v := 0) hx hb dX2_init_20 (by decide) ?_
  refine f_put X hw hM fc3 3 (by decide) wq130 rfl rfl (v := .int 0) rfl rfl (Nat.le_of_ble_eq_true rfl) dX2_init_21 (fun H locs hw => ?_)
  have hw : fw g ad (fU (fU M lb (.inr (3, hV (upd (upd (upd f 0 x) 1 w) 2 z)))) lb (.inr (3, hV (upd (upd (upd (upd f 0 x) 1 w) 2 z) 3 0)))) s H locs := hw
  rw [fU_U] at hw
  have hM : (fU M lb (.inr (3, hV (upd (upd (upd (upd f 0 x) 1 w) 2 z) 3 0)))) lb = some (.inr (3, hV (upd (upd (upd (upd f 0 x) 1 w) 2 z) 3 0))) := fU_s
  exact f_vret X hw ⟨rfl, rfl⟩ (Nat.le_refl _) (Nat.le_refl _) dX2_init_24
set_option maxHeartbeats 4000000 in
set_option maxRecDepth 100000 in
theorem c_X2_copyFrom (l : Launch) (g : fG) (ad : Nat → Nat) (M : fM) {lb : Nat} {f : Nat → Int32} (hM : M lb = some (.inr (3, hV f))) {lo : Nat} {o : Nat → Int32} (hO : M lo = some (.inr (3, hV o))) (hne : lo ≠ lb) : fCv l g yX2_copyFrom cX2_copyFrom 2 0 0 0 0 ad M [.ref (ad lb), .ref (ad lo)] (fDv ad (fU M lb (.inr (3, hV o)))) := by
  refine f_body (own := RX2) (by decide +kernel) rfl (Nat.le_of_ble_eq_true rfl) ?_
  intro p e s m args below meth c ls X hw hin hl
  have hx := X.1
  have hb := X.2.1
  have hl : lv_has ls 2 [(0, .ref (ad lb)), (1, .ref (ad lo))] := hl
  refine lv_aload_n hx hb dX2_copyFrom_0 rfl (lv_at hl 0 rfl) ?_
  refine lv_aload_n hx hb dX2_copyFrom_1 rfl (lv_at hl 1 rfl) ?_
  refine f_get X hw hO fc3 0 (by decide) wq124 rfl (v := .int (o 0)) rfl dX2_copyFrom_2 ?_
  refine f_put X hw hM fc3 0 (by decide) wq124 rfl rfl (v := .int (o 0)) rfl rfl (Nat.le_of_ble_eq_true rfl) dX2_copyFrom_5 (fun H locs hw => ?_)
  have hw : fw g ad (fU M lb (.inr (3, hV (upd f 0 (o 0))))) s H locs := hw
  have hO : (fU M lb (.inr (3, hV (upd f 0 (o 0))))) lo = some (.inr (3, hV o)) := (fU_n (by omega)).trans hO
  have hM : (fU M lb (.inr (3, hV (upd f 0 (o 0))))) lb = some (.inr (3, hV (upd f 0 (o 0)))) := fU_s
  refine lv_aload_n hx hb dX2_copyFrom_8 rfl (lv_at hl 0 rfl) ?_
  refine lv_aload_n hx hb dX2_copyFrom_9 rfl (lv_at hl 1 rfl) ?_
  refine f_get X hw hO fc3 1 (by decide) wq127 rfl (v := .int (o 1)) rfl dX2_copyFrom_10 ?_
  refine f_put X hw hM fc3 1 (by decide) wq127 rfl rfl (v := .int (o 1)) rfl rfl (Nat.le_of_ble_eq_true rfl) dX2_copyFrom_13 (fun H locs hw => ?_)
  have hw : fw g ad (fU (fU M lb (.inr (3, hV (upd f 0 (o 0))))) lb (.inr (3, hV (upd (upd f 0 (o 0)) 1 (o 1))))) s H locs := hw
  rw [fU_U] at hw
  have hO : (fU M lb (.inr (3, hV (upd (upd f 0 (o 0)) 1 (o 1))))) lo = some (.inr (3, hV o)) := (fU_n (by omega)).trans ((fU_n (by omega)).symm.trans hO)
  have hM : (fU M lb (.inr (3, hV (upd (upd f 0 (o 0)) 1 (o 1))))) lb = some (.inr (3, hV (upd (upd f 0 (o 0)) 1 (o 1)))) := fU_s
  refine lv_aload_n hx hb dX2_copyFrom_16 rfl (lv_at hl 0 rfl) ?_
  refine lv_aload_n hx hb dX2_copyFrom_17 rfl (lv_at hl 1 rfl) ?_
  refine f_get X hw hO fc3 2 (by decide) wq128 rfl (v := .int (o 2)) rfl dX2_copyFrom_18 ?_
  refine f_put X hw hM fc3 2 (by decide) wq128 rfl rfl (v := .int (o 2)) rfl rfl (Nat.le_of_ble_eq_true rfl) dX2_copyFrom_21 (fun H locs hw => ?_)
  have hw : fw g ad (fU (fU M lb (.inr (3, hV (upd (upd f 0 (o 0)) 1 (o 1))))) lb (.inr (3, hV (upd (upd (upd f 0 (o 0)) 1 (o 1)) 2 (o 2))))) s H locs := hw
  rw [fU_U] at hw
  have hO : (fU M lb (.inr (3, hV (upd (upd (upd f 0 (o 0)) 1 (o 1)) 2 (o 2))))) lo = some (.inr (3, hV o)) := (fU_n (by omega)).trans ((fU_n (by omega)).symm.trans hO)
  have hM : (fU M lb (.inr (3, hV (upd (upd (upd f 0 (o 0)) 1 (o 1)) 2 (o 2))))) lb = some (.inr (3, hV (upd (upd (upd f 0 (o 0)) 1 (o 1)) 2 (o 2)))) := fU_s
  refine lv_aload_n hx hb dX2_copyFrom_24 rfl (lv_at hl 0 rfl) ?_
  refine lv_aload_n hx hb dX2_copyFrom_25 rfl (lv_at hl 1 rfl) ?_
  refine f_get X hw hO fc3 3 (by decide) wq130 rfl (v := .int (o 3)) rfl dX2_copyFrom_26 ?_
  refine f_put X hw hM fc3 3 (by decide) wq130 rfl rfl (v := .int (o 3)) rfl rfl (Nat.le_of_ble_eq_true rfl) dX2_copyFrom_29 (fun H locs hw => ?_)
  have hw : fw g ad (fU (fU M lb (.inr (3, hV (upd (upd (upd f 0 (o 0)) 1 (o 1)) 2 (o 2))))) lb (.inr (3, hV (upd (upd (upd (upd f 0 (o 0)) 1 (o 1)) 2 (o 2)) 3 (o 3))))) s H locs := hw
  rw [fU_U] at hw
  have hO : (fU M lb (.inr (3, hV (upd (upd (upd (upd f 0 (o 0)) 1 (o 1)) 2 (o 2)) 3 (o 3))))) lo = some (.inr (3, hV o)) := (fU_n (by omega)).trans ((fU_n (by omega)).symm.trans hO)
  have hM : (fU M lb (.inr (3, hV (upd (upd (upd (upd f 0 (o 0)) 1 (o 1)) 2 (o 2)) 3 (o 3))))) lb = some (.inr (3, hV (upd (upd (upd (upd f 0 (o 0)) 1 (o 1)) 2 (o 2)) 3 (o 3)))) := fU_s
  refine lv_aload_n hx hb dX2_copyFrom_32 rfl (lv_at hl 0 rfl) ?_
  refine lv_aload_n hx hb dX2_copyFrom_33 rfl (lv_at hl 1 rfl) ?_
  refine f_get X hw hO fc3 4 (by decide) wq133 rfl (v := .int (o 4)) rfl dX2_copyFrom_34 ?_
  refine f_put X hw hM fc3 4 (by decide) wq133 rfl rfl (v := .int (o 4)) rfl rfl (Nat.le_of_ble_eq_true rfl) dX2_copyFrom_37 (fun H locs hw => ?_)
  have hw : fw g ad (fU (fU M lb (.inr (3, hV (upd (upd (upd (upd f 0 (o 0)) 1 (o 1)) 2 (o 2)) 3 (o 3))))) lb (.inr (3, hV (upd (upd (upd (upd (upd f 0 (o 0)) 1 (o 1)) 2 (o 2)) 3 (o 3)) 4 (o 4))))) s H locs := hw
  rw [fU_U] at hw
  have hO : (fU M lb (.inr (3, hV (upd (upd (upd (upd (upd f 0 (o 0)) 1 (o 1)) 2 (o 2)) 3 (o 3)) 4 (o 4))))) lo = some (.inr (3, hV o)) := (fU_n (by omega)).trans ((fU_n (by omega)).symm.trans hO)
  have hM : (fU M lb (.inr (3, hV (upd (upd (upd (upd (upd f 0 (o 0)) 1 (o 1)) 2 (o 2)) 3 (o 3)) 4 (o 4))))) lb = some (.inr (3, hV (upd (upd (upd (upd (upd f 0 (o 0)) 1 (o 1)) 2 (o 2)) 3 (o 3)) 4 (o 4)))) := fU_s
  refine lv_aload_n hx hb dX2_copyFrom_40 rfl (lv_at hl 0 rfl) ?_
  refine lv_aload_n hx hb dX2_copyFrom_41 rfl (lv_at hl 1 rfl) ?_
  refine f_get X hw hO fc3 5 (by decide) wq135 rfl (v := .int (o 5)) rfl dX2_copyFrom_42 ?_
  refine f_put X hw hM fc3 5 (by decide) wq135 rfl rfl (v := .int (o 5)) rfl rfl (Nat.le_of_ble_eq_true rfl) dX2_copyFrom_45 (fun H locs hw => ?_)
  have hw : fw g ad (fU (fU M lb (.inr (3, hV (upd (upd (upd (upd (upd f 0 (o 0)) 1 (o 1)) 2 (o 2)) 3 (o 3)) 4 (o 4))))) lb (.inr (3, hV (upd (upd (upd (upd (upd (upd f 0 (o 0)) 1 (o 1)) 2 (o 2)) 3 (o 3)) 4 (o 4)) 5 (o 5))))) s H locs := hw
  rw [fU_U] at hw
  have hO : (fU M lb (.inr (3, hV (upd (upd (upd (upd (upd (upd f 0 (o 0)) 1 (o 1)) 2 (o 2)) 3 (o 3)) 4 (o 4)) 5 (o 5))))) lo = some (.inr (3, hV o)) := (fU_n (by omega)).trans ((fU_n (by omega)).symm.trans hO)
  have hM : (fU M lb (.inr (3, hV (upd (upd (upd (upd (upd (upd f 0 (o 0)) 1 (o 1)) 2 (o 2)) 3 (o 3)) 4 (o 4)) 5 (o 5))))) lb = some (.inr (3, hV (upd (upd (upd (upd (upd (upd f 0 (o 0)) 1 (o 1)) 2 (o 2)) 3 (o 3)) 4 (o 4)) 5 (o 5)))) := fU_s
  refine lv_aload_n hx hb dX2_copyFrom_48 rfl (lv_at hl 0 rfl) ?_
  refine lv_aload_n hx hb dX2_copyFrom_49 rfl (lv_at hl 1 rfl) ?_
  refine f_get X hw hO fc3 6 (by decide) wq137 rfl (v := .int (o 6)) rfl dX2_copyFrom_50 ?_
  refine f_put X hw hM fc3 6 (by decide) wq137 rfl rfl (v := .int (o 6)) rfl rfl (Nat.le_of_ble_eq_true rfl) dX2_copyFrom_53 (fun H locs hw => ?_)
  have hw : fw g ad (fU (fU M lb (.inr (3, hV (upd (upd (upd (upd (upd (upd f 0 (o 0)) 1 (o 1)) 2 (o 2)) 3 (o 3)) 4 (o 4)) 5 (o 5))))) lb (.inr (3, hV (upd (upd (upd (upd (upd (upd (upd f 0 (o 0)) 1 (o 1)) 2 (o 2)) 3 (o 3)) 4 (o 4)) 5 (o 5)) 6 (o 6))))) s H locs := hw
  rw [fU_U] at hw
  have hO : (fU M lb (.inr (3, hV (upd (upd (upd (upd (upd (upd (upd f 0 (o 0)) 1 (o 1)) 2 (o 2)) 3 (o 3)) 4 (o 4)) 5 (o 5)) 6 (o 6))))) lo = some (.inr (3, hV o)) := (fU_n (by omega)).trans ((fU_n (by omega)).symm.trans hO)
  have hM : (fU M lb (.inr (3, hV (upd (upd (upd (upd (upd (upd (upd f 0 (o 0)) 1 (o 1)) 2 (o 2)) 3 (o 3)) 4 (o 4)) 5 (o 5)) 6 (o 6))))) lb = some (.inr (3, hV (upd (upd (upd (upd (upd (upd (upd f 0 (o 0)) 1 (o 1)) 2 (o 2)) 3 (o 3)) 4 (o 4)) 5 (o 5)) 6 (o 6)))) := fU_s
  exact f_vret X hw ⟨rfl, rfl⟩ (Nat.le_refl _) (Nat.le_refl _) dX2_copyFrom_56
set_option maxHeartbeats 4000000 in
set_option maxRecDepth 100000 in
theorem c_X3_copyFrom (l : Launch) (g : fG) (ad : Nat → Nat) (M : fM) {lb : Nat} {f : Nat → Int32} (hM : M lb = some (.inr (4, pV f))) {lo : Nat} {o : Nat → Int32} (hO : M lo = some (.inr (4, pV o))) (hne : lo ≠ lb) : fCv l g yX3_copyFrom cX3_copyFrom 2 0 0 0 0 ad M [.ref (ad lb), .ref (ad lo)] (fDv ad (fU M lb (.inr (4, pV o)))) := by
  refine f_body (own := RX3) (by decide +kernel) rfl (Nat.le_of_ble_eq_true rfl) ?_
  intro p e s m args below meth c ls X hw hin hl
  have hx := X.1
  have hb := X.2.1
  have hl : lv_has ls 2 [(0, .ref (ad lb)), (1, .ref (ad lo))] := hl
  refine lv_aload_n hx hb dX3_copyFrom_0 rfl (lv_at hl 0 rfl) ?_
  refine lv_aload_n hx hb dX3_copyFrom_1 rfl (lv_at hl 1 rfl) ?_
  refine f_get X hw hO fc4 0 (by decide) wq235 rfl (v := .int (o 0)) rfl dX3_copyFrom_2 ?_
  refine f_put X hw hM fc4 0 (by decide) wq235 rfl rfl (v := .int (o 0)) rfl rfl (Nat.le_of_ble_eq_true rfl) dX3_copyFrom_5 (fun H locs hw => ?_)
  have hw : fw g ad (fU M lb (.inr (4, pV (upd f 0 (o 0))))) s H locs := hw
  have hO : (fU M lb (.inr (4, pV (upd f 0 (o 0))))) lo = some (.inr (4, pV o)) := (fU_n (by omega)).trans hO
  have hM : (fU M lb (.inr (4, pV (upd f 0 (o 0))))) lb = some (.inr (4, pV (upd f 0 (o 0)))) := fU_s
  refine lv_aload_n hx hb dX3_copyFrom_8 rfl (lv_at hl 0 rfl) ?_
  refine lv_aload_n hx hb dX3_copyFrom_9 rfl (lv_at hl 1 rfl) ?_
  refine f_get X hw hO fc4 1 (by decide) wq238 rfl (v := .int (o 1)) rfl dX3_copyFrom_10 ?_
  refine f_put X hw hM fc4 1 (by decide) wq238 rfl rfl (v := .int (o 1)) rfl rfl (Nat.le_of_ble_eq_true rfl) dX3_copyFrom_13 (fun H locs hw => ?_)
  have hw : fw g ad (fU (fU M lb (.inr (4, pV (upd f 0 (o 0))))) lb (.inr (4, pV (upd (upd f 0 (o 0)) 1 (o 1))))) s H locs := hw
  rw [fU_U] at hw
  have hO : (fU M lb (.inr (4, pV (upd (upd f 0 (o 0)) 1 (o 1))))) lo = some (.inr (4, pV o)) := (fU_n (by omega)).trans ((fU_n (by omega)).symm.trans hO)
  have hM : (fU M lb (.inr (4, pV (upd (upd f 0 (o 0)) 1 (o 1))))) lb = some (.inr (4, pV (upd (upd f 0 (o 0)) 1 (o 1)))) := fU_s
  exact f_vret X hw ⟨rfl, rfl⟩ (Nat.le_refl _) (Nat.le_refl _) dX3_copyFrom_16
set_option maxHeartbeats 4000000 in
set_option maxRecDepth 100000 in
theorem c_X0_copyFrom (l : Launch) (g : fG) (ad : Nat → Nat) (M : fM) {lb : Nat} {f : Nat → Int32} (hM : M lb = some (.inr (1, eV f))) {lo : Nat} {o : Nat → Int32} (hO : M lo = some (.inr (1, eV o))) (hne : lo ≠ lb) (ha : o 10 = 0 ∨ o 10 = 1) : fCv l g yX0_copyFrom cX0_copyFrom 2 0 0 0 0 ad M [.ref (ad lb), .ref (ad lo)] (fDv ad (fU M lb (.inr (1, eV o)))) := by
  refine f_body (own := RX0) (by decide +kernel) rfl (Nat.le_of_ble_eq_true rfl) ?_
  intro p e s m args below meth c ls X hw hin hl
  have hx := X.1
  have hb := X.2.1
  have hl : lv_has ls 2 [(0, .ref (ad lb)), (1, .ref (ad lo))] := hl
  refine lv_aload_n hx hb dX0_copyFrom_0 rfl (lv_at hl 0 rfl) ?_
  refine lv_aload_n hx hb dX0_copyFrom_1 rfl (lv_at hl 1 rfl) ?_
  refine f_get X hw hO fc1 0 (by decide) wq256 rfl (v := .int (o 0)) rfl dX0_copyFrom_2 ?_
  refine f_put X hw hM fc1 0 (by decide) wq256 rfl rfl (v := .int (o 0)) rfl rfl (Nat.le_of_ble_eq_true rfl) dX0_copyFrom_5 (fun H locs hw => ?_)
  have hw : fw g ad (fU M lb (.inr (1, eV (upd f 0 (o 0))))) s H locs := hw
  have hO : (fU M lb (.inr (1, eV (upd f 0 (o 0))))) lo = some (.inr (1, eV o)) := (fU_n (by omega)).trans hO
  have hM : (fU M lb (.inr (1, eV (upd f 0 (o 0))))) lb = some (.inr (1, eV (upd f 0 (o 0)))) := fU_s
  refine lv_aload_n hx hb dX0_copyFrom_8 rfl (lv_at hl 0 rfl) ?_
  refine lv_aload_n hx hb dX0_copyFrom_9 rfl (lv_at hl 1 rfl) ?_
  refine f_get X hw hO fc1 1 (by decide) wq259 rfl (v := .int (o 1)) rfl dX0_copyFrom_10 ?_
  refine f_put X hw hM fc1 1 (by decide) wq259 rfl rfl (v := .int (o 1)) rfl rfl (Nat.le_of_ble_eq_true rfl) dX0_copyFrom_13 (fun H locs hw => ?_)
  have hw : fw g ad (fU (fU M lb (.inr (1, eV (upd f 0 (o 0))))) lb (.inr (1, eV (upd (upd f 0 (o 0)) 1 (o 1))))) s H locs := hw
  rw [fU_U] at hw
  have hO : (fU M lb (.inr (1, eV (upd (upd f 0 (o 0)) 1 (o 1))))) lo = some (.inr (1, eV o)) := (fU_n (by omega)).trans ((fU_n (by omega)).symm.trans hO)
  have hM : (fU M lb (.inr (1, eV (upd (upd f 0 (o 0)) 1 (o 1))))) lb = some (.inr (1, eV (upd (upd f 0 (o 0)) 1 (o 1)))) := fU_s
  refine lv_aload_n hx hb dX0_copyFrom_16 rfl (lv_at hl 0 rfl) ?_
  refine lv_aload_n hx hb dX0_copyFrom_17 rfl (lv_at hl 1 rfl) ?_
  refine f_get X hw hO fc1 2 (by decide) wq261 rfl (v := .int (o 2)) rfl dX0_copyFrom_18 ?_
  refine f_put X hw hM fc1 2 (by decide) wq261 rfl rfl (v := .int (o 2)) rfl rfl (Nat.le_of_ble_eq_true rfl) dX0_copyFrom_21 (fun H locs hw => ?_)
  have hw : fw g ad (fU (fU M lb (.inr (1, eV (upd (upd f 0 (o 0)) 1 (o 1))))) lb (.inr (1, eV (upd (upd (upd f 0 (o 0)) 1 (o 1)) 2 (o 2))))) s H locs := hw
  rw [fU_U] at hw
  have hO : (fU M lb (.inr (1, eV (upd (upd (upd f 0 (o 0)) 1 (o 1)) 2 (o 2))))) lo = some (.inr (1, eV o)) := (fU_n (by omega)).trans ((fU_n (by omega)).symm.trans hO)
  have hM : (fU M lb (.inr (1, eV (upd (upd (upd f 0 (o 0)) 1 (o 1)) 2 (o 2))))) lb = some (.inr (1, eV (upd (upd (upd f 0 (o 0)) 1 (o 1)) 2 (o 2)))) := fU_s
  refine lv_aload_n hx hb dX0_copyFrom_24 rfl (lv_at hl 0 rfl) ?_
  refine lv_aload_n hx hb dX0_copyFrom_25 rfl (lv_at hl 1 rfl) ?_
  refine f_get X hw hO fc1 3 (by decide) wq263 rfl (v := .int (o 3)) rfl dX0_copyFrom_26 ?_
  refine f_put X hw hM fc1 3 (by decide) wq263 rfl rfl (v := .int (o 3)) rfl rfl (Nat.le_of_ble_eq_true rfl) dX0_copyFrom_29 (fun H locs hw => ?_)
  have hw : fw g ad (fU (fU M lb (.inr (1, eV (upd (upd (upd f 0 (o 0)) 1 (o 1)) 2 (o 2))))) lb (.inr (1, eV (upd (upd (upd (upd f 0 (o 0)) 1 (o 1)) 2 (o 2)) 3 (o 3))))) s H locs := hw
  rw [fU_U] at hw
  have hO : (fU M lb (.inr (1, eV (upd (upd (upd (upd f 0 (o 0)) 1 (o 1)) 2 (o 2)) 3 (o 3))))) lo = some (.inr (1, eV o)) := (fU_n (by omega)).trans ((fU_n (by omega)).symm.trans hO)
  have hM : (fU M lb (.inr (1, eV (upd (upd (upd (upd f 0 (o 0)) 1 (o 1)) 2 (o 2)) 3 (o 3))))) lb = some (.inr (1, eV (upd (upd (upd (upd f 0 (o 0)) 1 (o 1)) 2 (o 2)) 3 (o 3)))) := fU_s
  refine lv_aload_n hx hb dX0_copyFrom_32 rfl (lv_at hl 0 rfl) ?_
  refine lv_aload_n hx hb dX0_copyFrom_33 rfl (lv_at hl 1 rfl) ?_
  refine f_get X hw hO fc1 4 (by decide) wq266 rfl (v := .int (o 4)) rfl dX0_copyFrom_34 ?_
  refine f_put X hw hM fc1 4 (by decide) wq266 rfl rfl (v := .int (o 4)) rfl rfl (Nat.le_of_ble_eq_true rfl) dX0_copyFrom_37 (fun H locs hw => ?_)
  have hw : fw g ad (fU (fU M lb (.inr (1, eV (upd (upd (upd (upd f 0 (o 0)) 1 (o 1)) 2 (o 2)) 3 (o 3))))) lb (.inr (1, eV (upd (upd (upd (upd (upd f 0 (o 0)) 1 (o 1)) 2 (o 2)) 3 (o 3)) 4 (o 4))))) s H locs := hw
  rw [fU_U] at hw
  have hO : (fU M lb (.inr (1, eV (upd (upd (upd (upd (upd f 0 (o 0)) 1 (o 1)) 2 (o 2)) 3 (o 3)) 4 (o 4))))) lo = some (.inr (1, eV o)) := (fU_n (by omega)).trans ((fU_n (by omega)).symm.trans hO)
  have hM : (fU M lb (.inr (1, eV (upd (upd (upd (upd (upd f 0 (o 0)) 1 (o 1)) 2 (o 2)) 3 (o 3)) 4 (o 4))))) lb = some (.inr (1, eV (upd (upd (upd (upd (upd f 0 (o 0)) 1 (o 1)) 2 (o 2)) 3 (o 3)) 4 (o 4)))) := fU_s
  refine lv_aload_n hx hb dX0_copyFrom_40 rfl (lv_at hl 0 rfl) ?_
  refine lv_aload_n hx hb dX0_copyFrom_41 rfl (lv_at hl 1 rfl) ?_
  refine f_get X hw hO fc1 5 (by decide) wq268 rfl (v := .int (o 5)) rfl dX0_copyFrom_42 ?_
  refine f_put X hw hM fc1 5 (by decide) wq268 rfl rfl (v := .int (o 5)) rfl rfl (Nat.le_of_ble_eq_true rfl) dX0_copyFrom_45 (fun H locs hw => ?_)
  have hw : fw g ad (fU (fU M lb (.inr (1, eV (upd (upd (upd (upd (upd f 0 (o 0)) 1 (o 1)) 2 (o 2)) 3 (o 3)) 4 (o 4))))) lb (.inr (1, eV (upd (upd (upd (upd (upd (upd f 0 (o 0)) 1 (o 1)) 2 (o 2)) 3 (o 3)) 4 (o 4)) 5 (o 5))))) s H locs := hw
  rw [fU_U] at hw
  have hO : (fU M lb (.inr (1, eV (upd (upd (upd (upd (upd (upd f 0 (o 0)) 1 (o 1)) 2 (o 2)) 3 (o 3)) 4 (o 4)) 5 (o 5))))) lo = some (.inr (1, eV o)) := (fU_n (by omega)).trans ((fU_n (by omega)).symm.trans hO)
  have hM : (fU M lb (.inr (1, eV (upd (upd (upd (upd (upd (upd f 0 (o 0)) 1 (o 1)) 2 (o 2)) 3 (o 3)) 4 (o 4)) 5 (o 5))))) lb = some (.inr (1, eV (upd (upd (upd (upd (upd (upd f 0 (o 0)) 1 (o 1)) 2 (o 2)) 3 (o 3)) 4 (o 4)) 5 (o 5)))) := fU_s
  refine lv_aload_n hx hb dX0_copyFrom_48 rfl (lv_at hl 0 rfl) ?_
  refine lv_aload_n hx hb dX0_copyFrom_49 rfl (lv_at hl 1 rfl) ?_
  refine f_get X hw hO fc1 6 (by decide) wq271 rfl (v := .int (o 6)) rfl dX0_copyFrom_50 ?_
  refine f_put X hw hM fc1 6 (by decide) wq271 rfl rfl (v := .int (o 6)) rfl rfl (Nat.le_of_ble_eq_true rfl) dX0_copyFrom_53 (fun H locs hw => ?_)
  have hw : fw g ad (fU (fU M lb (.inr (1, eV (upd (upd (upd (upd (upd (upd f 0 (o 0)) 1 (o 1)) 2 (o 2)) 3 (o 3)) 4 (o 4)) 5 (o 5))))) lb (.inr (1, eV (upd (upd (upd (upd (upd (upd (upd f 0 (o 0)) 1 (o 1)) 2 (o 2)) 3 (o 3)) 4 (o 4)) 5 (o 5)) 6 (o 6))))) s H locs := hw
  rw [fU_U] at hw
  have hO : (fU M lb (.inr (1, eV (upd (upd (upd (upd (upd (upd (upd f 0 (o 0)) 1 (o 1)) 2 (o 2)) 3 (o 3)) 4 (o 4)) 5 (o 5)) 6 (o 6))))) lo = some (.inr (1, eV o)) := (fU_n (by omega)).trans ((fU_n (by omega)).symm.trans hO)
  have hM : (fU M lb (.inr (1, eV (upd (upd (upd (upd (upd (upd (upd f 0 (o 0)) 1 (o 1)) 2 (o 2)) 3 (o 3)) 4 (o 4)) 5 (o 5)) 6 (o 6))))) lb = some (.inr (1, eV (upd (upd (upd (upd (upd (upd (upd f 0 (o 0)) 1 (o 1)) 2 (o 2)) 3 (o 3)) 4 (o 4)) 5 (o 5)) 6 (o 6)))) := fU_s
  refine lv_aload_n hx hb dX0_copyFrom_56 rfl (lv_at hl 0 rfl) ?_
  refine lv_aload_n hx hb dX0_copyFrom_57 rfl (lv_at hl 1 rfl) ?_
  refine f_get X hw hO fc1 7 (by decide) wq273 rfl (v := .int (o 7)) rfl dX0_copyFrom_58 ?_
  refine f_put X hw hM fc1 7 (by decide) wq273 rfl rfl (v := .int (o 7)) rfl rfl (Nat.le_of_ble_eq_true rfl) dX0_copyFrom_61 (fun H locs hw => ?_)
  have hw : fw g ad (fU (fU M lb (.inr (1, eV (upd (upd (upd (upd (upd (upd (upd f 0 (o 0)) 1 (o 1)) 2 (o 2)) 3 (o 3)) 4 (o 4)) 5 (o 5)) 6 (o 6))))) lb (.inr (1, eV (upd (upd (upd (upd (upd (upd (upd (upd f 0 (o 0)) 1 (o 1)) 2 (o 2)) 3 (o 3)) 4 (o 4)) 5 (o 5)) 6 (o 6)) 7 (o 7))))) s H locs := hw
  rw [fU_U] at hw
  have hO : (fU M lb (.inr (1, eV (upd (upd (upd (upd (upd (upd (upd (upd f 0 (o 0)) 1 (o 1)) 2 (o 2)) 3 (o 3)) 4 (o 4)) 5 (o 5)) 6 (o 6)) 7 (o 7))))) lo = some (.inr (1, eV o)) := (fU_n (by omega)).trans ((fU_n (by omega)).symm.trans hO)
  have hM : (fU M lb (.inr (1, eV (upd (upd (upd (upd (upd (upd (upd (upd f 0 (o 0)) 1 (o 1)) 2 (o 2)) 3 (o 3)) 4 (o 4)) 5 (o 5)) 6 (o 6)) 7 (o 7))))) lb = some (.inr (1, eV (upd (upd (upd (upd (upd (upd (upd (upd f 0 (o 0)) 1 (o 1)) 2 (o 2)) 3 (o 3)) 4 (o 4)) 5 (o 5)) 6 (o 6)) 7 (o 7)))) := fU_s
  refine lv_aload_n hx hb dX0_copyFrom_64 rfl (lv_at hl 0 rfl) ?_
  refine lv_aload_n hx hb dX0_copyFrom_65 rfl (lv_at hl 1 rfl) ?_
  refine f_get X hw hO fc1 8 (by decide) wq276 rfl (v := .int (o 8)) rfl dX0_copyFrom_66 ?_
  refine f_put X hw hM fc1 8 (by decide) wq276 rfl rfl (v := .int (o 8)) rfl rfl (Nat.le_of_ble_eq_true rfl) dX0_copyFrom_69 (fun H locs hw => ?_)
  have hw : fw g ad (fU (fU M lb (.inr (1, eV (upd (upd (upd (upd (upd (upd (upd (upd f 0 (o 0)) 1 (o 1)) 2 (o 2)) 3 (o 3)) 4 (o 4)) 5 (o 5)) 6 (o 6)) 7 (o 7))))) lb (.inr (1, eV (upd (upd (upd (upd (upd (upd (upd (upd (upd f 0 (o 0)) 1 (o 1)) 2 (o 2)) 3 (o 3)) 4 (o 4)) 5 (o 5)) 6 (o 6)) 7 (o 7)) 8 (o 8))))) s H locs := hw
  rw [fU_U] at hw
  have hO : (fU M lb (.inr (1, eV (upd (upd (upd (upd (upd (upd (upd (upd (upd f 0 (o 0)) 1 (o 1)) 2 (o 2)) 3 (o 3)) 4 (o 4)) 5 (o 5)) 6 (o 6)) 7 (o 7)) 8 (o 8))))) lo = some (.inr (1, eV o)) := (fU_n (by omega)).trans ((fU_n (by omega)).symm.trans hO)
  have hM : (fU M lb (.inr (1, eV (upd (upd (upd (upd (upd (upd (upd (upd (upd f 0 (o 0)) 1 (o 1)) 2 (o 2)) 3 (o 3)) 4 (o 4)) 5 (o 5)) 6 (o 6)) 7 (o 7)) 8 (o 8))))) lb = some (.inr (1, eV (upd (upd (upd (upd (upd (upd (upd (upd (upd f 0 (o 0)) 1 (o 1)) 2 (o 2)) 3 (o 3)) 4 (o 4)) 5 (o 5)) 6 (o 6)) 7 (o 7)) 8 (o 8)))) := fU_s
  refine lv_aload_n hx hb dX0_copyFrom_72 rfl (lv_at hl 0 rfl) ?_
  refine lv_aload_n hx hb dX0_copyFrom_73 rfl (lv_at hl 1 rfl) ?_
  refine f_get X hw hO fc1 9 (by decide) wq278 rfl (v := .int (o 9)) rfl dX0_copyFrom_74 ?_
  refine f_put X hw hM fc1 9 (by decide) wq278 rfl rfl (v := .int (o 9)) rfl rfl (Nat.le_of_ble_eq_true rfl) dX0_copyFrom_77 (fun H locs hw => ?_)
  have hw : fw g ad (fU (fU M lb (.inr (1, eV (upd (upd (upd (upd (upd (upd (upd (upd (upd f 0 (o 0)) 1 (o 1)) 2 (o 2)) 3 (o 3)) 4 (o 4)) 5 (o 5)) 6 (o 6)) 7 (o 7)) 8 (o 8))))) lb (.inr (1, eV (upd (upd (upd (upd (upd (upd (upd (upd (upd (upd f 0 (o 0)) 1 (o 1)) 2 (o 2)) 3 (o 3)) 4 (o 4)) 5 (o 5)) 6 (o 6)) 7 (o 7)) 8 (o 8)) 9 (o 9))))) s H locs := hw
  rw [fU_U] at hw
  have hO : (fU M lb (.inr (1, eV (upd (upd (upd (upd (upd (upd (upd (upd (upd (upd f 0 (o 0)) 1 (o 1)) 2 (o 2)) 3 (o 3)) 4 (o 4)) 5 (o 5)) 6 (o 6)) 7 (o 7)) 8 (o 8)) 9 (o 9))))) lo = some (.inr (1, eV o)) := (fU_n (by omega)).trans ((fU_n (by omega)).symm.trans hO)
  have hM : (fU M lb (.inr (1, eV (upd (upd (upd (upd (upd (upd (upd (upd (upd (upd f 0 (o 0)) 1 (o 1)) 2 (o 2)) 3 (o 3)) 4 (o 4)) 5 (o 5)) 6 (o 6)) 7 (o 7)) 8 (o 8)) 9 (o 9))))) lb = some (.inr (1, eV (upd (upd (upd (upd (upd (upd (upd (upd (upd (upd f 0 (o 0)) 1 (o 1)) 2 (o 2)) 3 (o 3)) 4 (o 4)) 5 (o 5)) 6 (o 6)) 7 (o 7)) 8 (o 8)) 9 (o 9)))) := fU_s
  refine lv_aload_n hx hb dX0_copyFrom_80 rfl (lv_at hl 0 rfl) ?_
  refine lv_aload_n hx hb dX0_copyFrom_81 rfl (lv_at hl 1 rfl) ?_
  refine f_get X hw hO fc1 10 (by decide) wq280 rfl (v := .int (o 10)) rfl dX0_copyFrom_82 ?_
  refine f_put X hw hM fc1 10 (by decide) wq280 rfl rfl (v := .int (o 10)) (by rcases ha with ha | ha <;> rw [ha] <;> rfl) (by rcases ha with ha | ha <;> rw [ha] <;> rfl) (Nat.le_of_ble_eq_true rfl) dX0_copyFrom_85 (fun H locs hw => ?_)
  have hw : fw g ad (fU (fU M lb (.inr (1, eV (upd (upd (upd (upd (upd (upd (upd (upd (upd (upd f 0 (o 0)) 1 (o 1)) 2 (o 2)) 3 (o 3)) 4 (o 4)) 5 (o 5)) 6 (o 6)) 7 (o 7)) 8 (o 8)) 9 (o 9))))) lb (.inr (1, eV (upd (upd (upd (upd (upd (upd (upd (upd (upd (upd (upd f 0 (o 0)) 1 (o 1)) 2 (o 2)) 3 (o 3)) 4 (o 4)) 5 (o 5)) 6 (o 6)) 7 (o 7)) 8 (o 8)) 9 (o 9)) 10 (o 10))))) s H locs := hw
  rw [fU_U] at hw
  have hO : (fU M lb (.inr (1, eV (upd (upd (upd (upd (upd (upd (upd (upd (upd (upd (upd f 0 (o 0)) 1 (o 1)) 2 (o 2)) 3 (o 3)) 4 (o 4)) 5 (o 5)) 6 (o 6)) 7 (o 7)) 8 (o 8)) 9 (o 9)) 10 (o 10))))) lo = some (.inr (1, eV o)) := (fU_n (by omega)).trans ((fU_n (by omega)).symm.trans hO)
  have hM : (fU M lb (.inr (1, eV (upd (upd (upd (upd (upd (upd (upd (upd (upd (upd (upd f 0 (o 0)) 1 (o 1)) 2 (o 2)) 3 (o 3)) 4 (o 4)) 5 (o 5)) 6 (o 6)) 7 (o 7)) 8 (o 8)) 9 (o 9)) 10 (o 10))))) lb = some (.inr (1, eV (upd (upd (upd (upd (upd (upd (upd (upd (upd (upd (upd f 0 (o 0)) 1 (o 1)) 2 (o 2)) 3 (o 3)) 4 (o 4)) 5 (o 5)) 6 (o 6)) 7 (o 7)) 8 (o 8)) 9 (o 9)) 10 (o 10)))) := fU_s
  exact f_vret X hw ⟨rfl, rfl⟩ (Nat.le_refl _) (Nat.le_refl _) dX0_copyFrom_88
set_option maxHeartbeats 4000000 in
set_option maxRecDepth 100000 in
theorem c_X2_catchFire (l : Launch) (g : fG) (ad : Nat → Nat) (M : fM) {lb : Nat} {f : Nat → Int32} (hM : M lb = some (.inr (3, hV f))) (x : Int32) : fCv l g yX2_catchFire cX2_catchFire 2 0 0 0 0 ad M [.ref (ad lb), .int x] (fDv ad (fU M lb (.inr (3, hV (upd (upd f 3 1) 4 x))))) := by
  refine f_body (own := RX2) (by decide +kernel) rfl (Nat.le_of_ble_eq_true rfl) ?_
  intro p e s m args below meth c ls X hw hin hl
  have hx := X.1
  have hb := X.2.1
  have hl : lv_has ls 2 [(0, .ref (ad lb)), (1, .int x)] := hl
  refine lv_aload_n hx hb dX2_catchFire_0 rfl (lv_at hl 0 rfl) ?_
  refine lv_iconst (v := 1) hx hb dX2_catchFire_1 (by decide) ?_
  refine f_put X hw hM fc3 3 (by decide) wq130 rfl rfl (v := .int 1) rfl rfl (Nat.le_of_ble_eq_true rfl) dX2_catchFire_2 (fun H locs hw => ?_)
  have hw : fw g ad (fU M lb (.inr (3, hV (upd f 3 1)))) s H locs := hw
  have hM : (fU M lb (.inr (3, hV (upd f 3 1)))) lb = some (.inr (3, hV (upd f 3 1))) := fU_s
  refine lv_aload_n hx hb dX2_catchFire_5 rfl (lv_at hl 0 rfl) ?_
  refine lv_iload_n hx hb dX2_catchFire_6 rfl (lv_at hl 1 rfl) ?_
  refine f_put X hw hM fc3 4 (by decide) wq133 rfl rfl (v := .int x) rfl rfl (Nat.le_of_ble_eq_true rfl) dX2_catchFire_7 (fun H locs hw => ?_)
  have hw : fw g ad (fU (fU M lb (.inr (3, hV (upd f 3 1)))) lb (.inr (3, hV (upd (upd f 3 1) 4 x)))) s H locs := hw
  rw [fU_U] at hw
  have hM : (fU M lb (.inr (3, hV (upd (upd f 3 1) 4 x)))) lb = some (.inr (3, hV (upd (upd f 3 1) 4 x))) := fU_s
  exact f_vret X hw ⟨rfl, rfl⟩ (Nat.le_refl _) (Nat.le_refl _) dX2_catchFire_10
set_option maxHeartbeats 4000000 in
set_option maxRecDepth 100000 in
theorem c_X2_takeWater (l : Launch) (g : fG) (ad : Nat → Nat) (M : fM) {lb : Nat} {f : Nat → Int32} (hM : M lb = some (.inr (3, hV f))) (x : Int32) : fCv l g yX2_takeWater cX2_takeWater 2 0 0 0 0 ad M [.ref (ad lb), .int x] (fDv ad (fU M lb (.inr (3, hV (upd (upd f 5 (f 5 + x)) 6 (f 6 + x)))))) := by
  refine f_body (own := RX2) (by decide +kernel) rfl (Nat.le_of_ble_eq_true rfl) ?_
  intro p e s m args below meth c ls X hw hin hl
  have hx := X.1
  have hb := X.2.1
  have hl : lv_has ls 2 [(0, .ref (ad lb)), (1, .int x)] := hl
  refine lv_aload_n hx hb dX2_takeWater_0 rfl (lv_at hl 0 rfl) ?_
  refine lv_dup hx hb dX2_takeWater_1 rfl ?_
  refine f_get X hw hM fc3 5 (by decide) wq135 rfl (v := .int (f 5)) rfl dX2_takeWater_2 ?_
  refine lv_iload_n hx hb dX2_takeWater_5 rfl (lv_at hl 1 rfl) ?_
  refine lv_iadd hx hb dX2_takeWater_6 ?_
  refine f_put X hw hM fc3 5 (by decide) wq135 rfl rfl (v := .int ((f 5) + x)) rfl rfl (Nat.le_of_ble_eq_true rfl) dX2_takeWater_7 (fun H locs hw => ?_)
  have hw : fw g ad (fU M lb (.inr (3, hV (upd f 5 ((f 5) + x))))) s H locs := hw
  have hM : (fU M lb (.inr (3, hV (upd f 5 ((f 5) + x))))) lb = some (.inr (3, hV (upd f 5 ((f 5) + x)))) := fU_s
  refine lv_aload_n hx hb dX2_takeWater_10 rfl (lv_at hl 0 rfl) ?_
  refine lv_dup hx hb dX2_takeWater_11 rfl ?_
  refine f_get X hw hM fc3 6 (by decide) wq137 rfl (v := .int (f 6)) rfl dX2_takeWater_12 ?_
  refine lv_iload_n hx hb dX2_takeWater_15 rfl (lv_at hl 1 rfl) ?_
  refine lv_iadd hx hb dX2_takeWater_16 ?_
  refine f_put X hw hM fc3 6 (by decide) wq137 rfl rfl (v := .int ((f 6) + x)) rfl rfl (Nat.le_of_ble_eq_true rfl) dX2_takeWater_17 (fun H locs hw => ?_)
  have hw : fw g ad (fU (fU M lb (.inr (3, hV (upd f 5 ((f 5) + x))))) lb (.inr (3, hV (upd (upd f 5 ((f 5) + x)) 6 ((f 6) + x))))) s H locs := hw
  rw [fU_U] at hw
  have hM : (fU M lb (.inr (3, hV (upd (upd f 5 ((f 5) + x)) 6 ((f 6) + x))))) lb = some (.inr (3, hV (upd (upd f 5 ((f 5) + x)) 6 ((f 6) + x)))) := fU_s
  exact f_vret X hw ⟨rfl, rfl⟩ (Nat.le_refl _) (Nat.le_refl _) dX2_takeWater_20
set_option maxHeartbeats 4000000 in
set_option maxRecDepth 100000 in
theorem c_X2_endFire (l : Launch) (g : fG) (ad : Nat → Nat) (M : fM) {lb : Nat} {f : Nat → Int32} (hM : M lb = some (.inr (3, hV f))) (x : Int32) : fCv l g yX2_endFire cX2_endFire 2 0 0 0 0 ad M [.ref (ad lb), .int x] (fDv ad (fU M lb (.inr (3, hV (upd (upd f 3 x) 4 0))))) := by
  refine f_body (own := RX2) (by decide +kernel) rfl (Nat.le_of_ble_eq_true rfl) ?_
  intro p e s m args below meth c ls X hw hin hl
  have hx := X.1
  have hb := X.2.1
  have hl : lv_has ls 2 [(0, .ref (ad lb)), (1, .int x)] := hl
  refine lv_aload_n hx hb dX2_endFire_0 rfl (lv_at hl 0 rfl) ?_
  refine lv_iload_n hx hb dX2_endFire_1 rfl (lv_at hl 1 rfl) ?_
  refine f_put X hw hM fc3 3 (by decide) wq130 rfl rfl (v := .int x) rfl rfl (Nat.le_of_ble_eq_true rfl) dX2_endFire_2 (fun H locs hw => ?_)
  have hw : fw g ad (fU M lb (.inr (3, hV (upd f 3 x)))) s H locs := hw
  have hM : (fU M lb (.inr (3, hV (upd f 3 x)))) lb = some (.inr (3, hV (upd f 3 x))) := fU_s
  refine lv_aload_n hx hb dX2_endFire_5 rfl (lv_at hl 0 rfl) ?_
  refine lv_iconst (v := 0) hx hb dX2_endFire_6 (by decide) ?_
  refine f_put X hw hM fc3 4 (by decide) wq133 rfl rfl (v := .int 0) rfl rfl (Nat.le_of_ble_eq_true rfl) dX2_endFire_7 (fun H locs hw => ?_)
  have hw : fw g ad (fU (fU M lb (.inr (3, hV (upd f 3 x)))) lb (.inr (3, hV (upd (upd f 3 x) 4 0)))) s H locs := hw
  rw [fU_U] at hw
  have hM : (fU M lb (.inr (3, hV (upd (upd f 3 x) 4 0)))) lb = some (.inr (3, hV (upd (upd f 3 x) 4 0))) := fU_s
  exact f_vret X hw ⟨rfl, rfl⟩ (Nat.le_refl _) (Nat.le_refl _) dX2_endFire_10
set_option maxHeartbeats 4000000 in
set_option maxRecDepth 100000 in
theorem c_X2_tell (l : Launch) (g : fG) (ad : Nat → Nat) (M : fM) {lb : Nat} {f : Nat → Int32} (hM : M lb = some (.inr (3, hV f))) (p0 : Int32) : fCi l g yX2_tell cX2_tell 2 ((some .int)) 0 0 0 0 ad M [.ref (ad lb), .int p0] (fDi ad M (hTell f p0)) := by
  refine f_body (own := RX2) (by decide +kernel) rfl (Nat.le_of_ble_eq_true rfl) ?_
  intro p e s m args below meth c ls X hw hin hl
  have hx := X.1
  have hb := X.2.1
  have hl : lv_has ls 2 [(0, .ref (ad lb)), (1, .int p0)] := hl
  refine lv_iload_n hx hb dX2_tell_0 rfl (lv_at hl 1 rfl) ?_
  by_cases k_1 : p0 = 0
  · refine lv_tableIn (off := 39) (tgt := 40) hx hb dX2_tell_1 (by rw [k_1]; decide) (by rw [k_1]; decide) (by rw [k_1]; rfl) (by decide) ?_
    refine lv_aload_n hx hb dX2_tell_40 rfl (lv_at hl 0 rfl) ?_
    refine f_get X hw hM fc3 0 (by decide) wq124 rfl (v := .int (f 0)) rfl dX2_tell_41 ?_
    exact f_iret X hw ⟨rfl, rfl, by rw [k_1]; rfl⟩ (Nat.le_refl _) (Nat.le_refl _) dX2_tell_44
  by_cases k_2 : p0 = 1
  · refine lv_tableIn (off := 44) (tgt := 45) hx hb dX2_tell_1 (by rw [k_2]; decide) (by rw [k_2]; decide) (by rw [k_2]; rfl) (by decide) ?_
    refine lv_aload_n hx hb dX2_tell_45 rfl (lv_at hl 0 rfl) ?_
    refine f_get X hw hM fc3 1 (by decide) wq127 rfl (v := .int (f 1)) rfl dX2_tell_46 ?_
    exact f_iret X hw ⟨rfl, rfl, by rw [k_2]; rfl⟩ (Nat.le_refl _) (Nat.le_refl _) dX2_tell_49
  by_cases k_3 : p0 = 2
  · refine lv_tableIn (off := 49) (tgt := 50) hx hb dX2_tell_1 (by rw [k_3]; decide) (by rw [k_3]; decide) (by rw [k_3]; rfl) (by decide) ?_
    refine lv_aload_n hx hb dX2_tell_50 rfl (lv_at hl 0 rfl) ?_
    refine f_get X hw hM fc3 2 (by decide) wq128 rfl (v := .int (f 2)) rfl dX2_tell_51 ?_
    exact f_iret X hw ⟨rfl, rfl, by rw [k_3]; rfl⟩ (Nat.le_refl _) (Nat.le_refl _) dX2_tell_54
  by_cases k_4 : p0 = 3
  · refine lv_tableIn (off := 54) (tgt := 55) hx hb dX2_tell_1 (by rw [k_4]; decide) (by rw [k_4]; decide) (by rw [k_4]; rfl) (by decide) ?_
    refine lv_aload_n hx hb dX2_tell_55 rfl (lv_at hl 0 rfl) ?_
    refine f_get X hw hM fc3 3 (by decide) wq130 rfl (v := .int (f 3)) rfl dX2_tell_56 ?_
    exact f_iret X hw ⟨rfl, rfl, by rw [k_4]; rfl⟩ (Nat.le_refl _) (Nat.le_refl _) dX2_tell_59
  by_cases k_5 : p0 = 4
  · refine lv_tableIn (off := 59) (tgt := 60) hx hb dX2_tell_1 (by rw [k_5]; decide) (by rw [k_5]; decide) (by rw [k_5]; rfl) (by decide) ?_
    refine lv_aload_n hx hb dX2_tell_60 rfl (lv_at hl 0 rfl) ?_
    refine f_get X hw hM fc3 4 (by decide) wq133 rfl (v := .int (f 4)) rfl dX2_tell_61 ?_
    exact f_iret X hw ⟨rfl, rfl, by rw [k_5]; rfl⟩ (Nat.le_refl _) (Nat.le_refl _) dX2_tell_64
  by_cases k_6 : p0 = 5
  · refine lv_tableIn (off := 64) (tgt := 65) hx hb dX2_tell_1 (by rw [k_6]; decide) (by rw [k_6]; decide) (by rw [k_6]; rfl) (by decide) ?_
    refine lv_aload_n hx hb dX2_tell_65 rfl (lv_at hl 0 rfl) ?_
    refine f_get X hw hM fc3 5 (by decide) wq135 rfl (v := .int (f 5)) rfl dX2_tell_66 ?_
    exact f_iret X hw ⟨rfl, rfl, by rw [k_6]; rfl⟩ (Nat.le_refl _) (Nat.le_refl _) dX2_tell_69
  refine lv_tableOut (tgt := 70) hx hb dX2_tell_1 (f_tout (lo := 0) (hi := 5) (by intro k a b; rcases (show k = 0 ∨ k = 1 ∨ k = 2 ∨ k = 3 ∨ k = 4 ∨ k = 5 by omega) with rfl | rfl | rfl | rfl | rfl | rfl <;> assumption)) (by decide) ?_
  refine lv_aload_n hx hb dX2_tell_70 rfl (lv_at hl 0 rfl) ?_
  refine f_get X hw hM fc3 6 (by decide) wq137 rfl (v := .int (f 6)) rfl dX2_tell_71 ?_
  exact f_iret X hw ⟨rfl, rfl, by simp only [hTell, k_1, k_2, k_3, k_4, k_5, k_6, if_false]⟩ (Nat.le_refl _) (Nat.le_refl _) dX2_tell_74
set_option maxHeartbeats 4000000 in
set_option maxRecDepth 100000 in
theorem c_X2_burn (l : Launch) (g : fG) (ad : Nat → Nat) (M : fM) {lb : Nat} {f : Nat → Int32} (hM : M lb = some (.inr (3, hV f))) : fCv l g yX2_burnAMinute cX2_burnAMinute 1 1 21 0 0 ad M [.ref (ad lb)] (fDv ad (fU M lb (.inr (3, hV (hBurn f))))) := by
  refine f_body (own := RX2) (by decide +kernel) rfl (Nat.le_of_ble_eq_true rfl) ?_
  intro p e s m args below meth c ls X hw hin hl
  have hx := X.1
  have hb := X.2.1
  have hl : lv_has ls 1 [(0, .ref (ad lb))] := hl
  refine lv_aload_n hx hb dX2_burnAMinute_0 rfl (lv_at hl 0 rfl) ?_
  refine f_get X hw hM fc3 3 (by decide) wq130 rfl (v := .int (f 3)) rfl dX2_burnAMinute_1 ?_
  refine lv_iconst (v := 1) hx hb dX2_burnAMinute_4 (by decide) ?_
  refine lv_icmp_eq (tgt := 9) hx hb dX2_burnAMinute_5 (by decide) (fun c_1 => ?_) (fun c_1 => ?_)
  · refine lv_aload_n hx hb dX2_burnAMinute_9 rfl (lv_at hl 0 rfl) ?_
    refine lv_bipush (v := 99) hx hb dX2_burnAMinute_10 (by decide) ?_
    refine lv_aload_n hx hb dX2_burnAMinute_12 rfl (lv_at hl 0 rfl) ?_
    refine f_get X hw hM fc3 4 (by decide) wq133 rfl (v := .int (f 4)) rfl dX2_burnAMinute_13 ?_
    refine lv_aload_n hx hb dX2_burnAMinute_16 rfl (lv_at hl 0 rfl) ?_
    refine f_get X hw hM fc3 1 (by decide) wq127 rfl (v := .int (f 1)) rfl dX2_burnAMinute_17 ?_
    refine lv_iadd hx hb dX2_burnAMinute_20 ?_
    refine lv_aload_n hx hb dX2_burnAMinute_21 rfl (lv_at hl 0 rfl) ?_
    refine f_get X hw hM fc3 5 (by decide) wq135 rfl (v := .int (f 5)) rfl dX2_burnAMinute_22 ?_
    refine lv_iconst (v := 4) hx hb dX2_burnAMinute_25 (by decide) ?_
    refine lv_idiv hx hb dX2_burnAMinute_26 (by decide) ?_
    refine lv_isub hx hb dX2_burnAMinute_27 ?_
    refine va_mmin hx hb (X.2.2.1.trans hl.1.symm) X.2.2.2.1 (X.2.2.2.2.1 _ wq403) (X.2.2.2.2.1 _ wq204) (X.2.2.2.2.1 _ wq18) (X.2.2.2.2.1 _ wq205) (Nat.le_of_ble_eq_true rfl) (Nat.le_of_ble_eq_true rfl) (Nat.zero_le _) (Nat.zero_le _) dX2_burnAMinute_28 ?_
    refine f_top (y := iMin 99 (((f 4) + (f 1)) - ((f 5) / 4))) rfl ?_
    refine f_put X hw hM fc3 4 (by decide) wq133 rfl rfl (v := .int (iMin 99 (((f 4) + (f 1)) - ((f 5) / 4)))) rfl rfl (Nat.le_of_ble_eq_true rfl) dX2_burnAMinute_31 (fun H locs hw => ?_)
    have hw : fw g ad (fU M lb (.inr (3, hV (upd f 4 (iMin 99 (((f 4) + (f 1)) - ((f 5) / 4))))))) s H locs := hw
    have hM : (fU M lb (.inr (3, hV (upd f 4 (iMin 99 (((f 4) + (f 1)) - ((f 5) / 4))))))) lb = some (.inr (3, hV (upd f 4 (iMin 99 (((f 4) + (f 1)) - ((f 5) / 4)))))) := fU_s
    refine lv_aload_n hx hb dX2_burnAMinute_34 rfl (lv_at hl 0 rfl) ?_
    refine f_get X hw hM fc3 4 (by decide) wq133 rfl (v := .int (iMin 99 (((f 4) + (f 1)) - ((f 5) / 4)))) rfl dX2_burnAMinute_35 ?_
    refine lv_if_gt (tgt := 47) hx hb dX2_burnAMinute_38 (by decide) (fun c_2 => ?_) (fun c_2 => ?_)
    · refine lv_aload_n hx hb dX2_burnAMinute_47 rfl (lv_at hl 0 rfl) ?_
      refine lv_iconst (v := 0) hx hb dX2_burnAMinute_48 (by decide) ?_
      refine lv_aload_n hx hb dX2_burnAMinute_49 rfl (lv_at hl 0 rfl) ?_
      refine f_get X hw hM fc3 2 (by decide) wq128 rfl (v := .int (f 2)) rfl dX2_burnAMinute_50 ?_
      refine lv_iconst (v := 1) hx hb dX2_burnAMinute_53 (by decide) ?_
      refine lv_isub hx hb dX2_burnAMinute_54 ?_
      refine lv_aload_n hx hb dX2_burnAMinute_55 rfl (lv_at hl 0 rfl) ?_
      refine f_get X hw hM fc3 4 (by decide) wq133 rfl (v := .int (iMin 99 (((f 4) + (f 1)) - ((f 5) / 4)))) rfl dX2_burnAMinute_56 ?_
      refine lv_bipush (v := 25) hx hb dX2_burnAMinute_59 (by decide) ?_
      refine lv_idiv hx hb dX2_burnAMinute_61 (by decide) ?_
      refine lv_isub hx hb dX2_burnAMinute_62 ?_
      refine va_mmax hx hb (X.2.2.1.trans hl.1.symm) X.2.2.2.1 (X.2.2.2.2.1 _ wq408) (X.2.2.2.2.1 _ wq173) (X.2.2.2.2.1 _ wq18) (X.2.2.2.2.1 _ wq174) (Nat.le_of_ble_eq_true rfl) (Nat.le_of_ble_eq_true rfl) (Nat.zero_le _) (Nat.zero_le _) dX2_burnAMinute_63 ?_
      refine f_top (y := iMax 0 (((f 2) - 1) - ((iMin 99 (((f 4) + (f 1)) - ((f 5) / 4))) / 25))) rfl ?_
      refine f_put X hw hM fc3 2 (by decide) wq128 rfl rfl (v := .int (iMax 0 (((f 2) - 1) - ((iMin 99 (((f 4) + (f 1)) - ((f 5) / 4))) / 25)))) rfl rfl (Nat.le_of_ble_eq_true rfl) dX2_burnAMinute_66 (fun H locs hw => ?_)
      have hw : fw g ad (fU (fU M lb (.inr (3, hV (upd f 4 (iMin 99 (((f 4) + (f 1)) - ((f 5) / 4))))))) lb (.inr (3, hV (upd (upd f 4 (iMin 99 (((f 4) + (f 1)) - ((f 5) / 4)))) 2 (iMax 0 (((f 2) - 1) - ((iMin 99 (((f 4) + (f 1)) - ((f 5) / 4))) / 25))))))) s H locs := hw
      rw [fU_U] at hw
      have hM : (fU M lb (.inr (3, hV (upd (upd f 4 (iMin 99 (((f 4) + (f 1)) - ((f 5) / 4)))) 2 (iMax 0 (((f 2) - 1) - ((iMin 99 (((f 4) + (f 1)) - ((f 5) / 4))) / 25))))))) lb = some (.inr (3, hV (upd (upd f 4 (iMin 99 (((f 4) + (f 1)) - ((f 5) / 4)))) 2 (iMax 0 (((f 2) - 1) - ((iMin 99 (((f 4) + (f 1)) - ((f 5) / 4))) / 25)))))) := fU_s
      refine lv_aload_n hx hb dX2_burnAMinute_69 rfl (lv_at hl 0 rfl) ?_
      refine f_get X hw hM fc3 2 (by decide) wq128 rfl (v := .int (iMax 0 (((f 2) - 1) - ((iMin 99 (((f 4) + (f 1)) - ((f 5) / 4))) / 25)))) rfl dX2_burnAMinute_70 ?_
      refine lv_if_ne (tgt := 81) hx hb dX2_burnAMinute_73 (by decide) (fun c_3 => ?_) (fun c_3 => ?_)
      · exact f_vret X hw ⟨rfl, by simp only [hBurn, c_1, c_2, c_3, if_true, if_false]⟩ (Nat.le_refl _) (Nat.le_refl _) dX2_burnAMinute_81
      · refine lv_aload_n hx hb dX2_burnAMinute_76 rfl (lv_at hl 0 rfl) ?_
        refine lv_iconst (v := 3) hx hb dX2_burnAMinute_77 (by decide) ?_
        refine fk_dv (fcV X hw (c_X2_endFire l g ad (fU M lb (.inr (3, hV (upd (upd f 4 (iMin 99 (((f 4) + (f 1)) - ((f 5) / 4)))) 2 (iMax 0 (((f 2) - 1) - ((iMin 99 (((f 4) + (f 1)) - ((f 5) / 4))) / 25))))))) hM 3) hM rfl wq404 kVX2_endFire ⟨(Nat.le_of_ble_eq_true rfl), (Nat.le_of_ble_eq_true rfl)⟩ rfl hl.1 rfl (Nat.le_of_ble_eq_true rfl) dX2_burnAMinute_78 ⟨Nat.le_refl _, Nat.le_refl _⟩) hw (fun H locs hw => ?_)
        rw [fU_U] at hw
        exact f_vret X hw ⟨rfl, by simp only [hBurn, c_1, c_2, c_3, if_true, if_false]⟩ (Nat.le_refl _) (Nat.le_refl _) dX2_burnAMinute_81
    · refine lv_aload_n hx hb dX2_burnAMinute_41 rfl (lv_at hl 0 rfl) ?_
      refine lv_iconst (v := 2) hx hb dX2_burnAMinute_42 (by decide) ?_
      refine fk_dv (fcV X hw (c_X2_endFire l g ad (fU M lb (.inr (3, hV (upd f 4 (iMin 99 (((f 4) + (f 1)) - ((f 5) / 4))))))) hM 2) hM rfl wq404 kVX2_endFire ⟨(Nat.le_of_ble_eq_true rfl), (Nat.le_of_ble_eq_true rfl)⟩ rfl hl.1 rfl (Nat.le_of_ble_eq_true rfl) dX2_burnAMinute_43 ⟨Nat.le_refl _, Nat.le_refl _⟩) hw (fun H locs hw => ?_)
      rw [fU_U] at hw
      exact f_vret X hw ⟨rfl, by simp only [hBurn, c_1, c_2, if_true, if_false]⟩ (Nat.le_refl _) (Nat.le_refl _) dX2_burnAMinute_46
  · exact f_vret X hw ⟨rfl, by simp only [hBurn, c_1, if_true, if_false]; exact (fU_same hM).symm⟩ (Nat.le_refl _) (Nat.le_refl _) dX2_burnAMinute_8
set_option maxHeartbeats 4000000 in
set_option maxRecDepth 100000 in
theorem c_X3_init (l : Launch) (g : fG) (ad : Nat → Nat) (M : fM) {lb : Nat} {f : Nat → Int32} (hM : M lb = some (.inr (4, pV f))) (x w : Int32) : fCv l g yX3_init cX3_init 3 1 12 0 0 ad M [.ref (ad lb), .int x, .int w] (fDv ad (fU M lb (.inr (4, pV (upd (upd f 0 x) 1 w))))) := by
  refine f_body (own := RX3) (by decide +kernel) rfl (Nat.le_of_ble_eq_true rfl) ?_
  intro p e s m args below meth c ls X hw hin hl
  have hx := X.1
  have hb := X.2.1
  have hl : lv_has ls 3 [(0, .ref (ad lb)), (1, .int x), (2, .int w)] := hl
  refine lv_aload_n hx hb dX3_init_0 rfl (lv_at hl 0 rfl) ?_
  refine W.objInit hx hb X.2.2.2.1 (X.2.2.2.2.1 _ wq234) (X.2.2.2.2.1 _ wq29) (X.2.2.2.2.1 _ wq30) rfl (by rw [X.2.2.1]; exact hl.1) rfl dX3_init_1 (Nat.le_of_ble_eq_true rfl) (Nat.le_of_ble_eq_true rfl) ?_
  refine W.eq (g2 := F0 m 4 ls []) rfl ?_
  refine lv_aload_n hx hb dX3_init_4 rfl (lv_at hl 0 rfl) ?_
  refine lv_iload_n hx hb dX3_init_5 rfl (lv_at hl 1 rfl) ?_
  refine f_put X hw hM fc4 0 (by decide) wq235 rfl rfl (v := .int x) rfl rfl (Nat.le_of_ble_eq_true rfl) dX3_init_6 (fun H locs hw => ?_)
  have hw : fw g ad (fU M lb (.inr (4, pV (upd f 0 x)))) s H locs := hw
  have hM : (fU M lb (.inr (4, pV (upd f 0 x)))) lb = some (.inr (4, pV (upd f 0 x))) := fU_s
  refine lv_aload_n hx hb dX3_init_9 rfl (lv_at hl 0 rfl) ?_
  refine lv_iload_n hx hb dX3_init_10 rfl (lv_at hl 2 rfl) ?_
  refine f_put X hw hM fc4 1 (by decide) wq238 rfl rfl (v := .int w) rfl rfl (Nat.le_of_ble_eq_true rfl) dX3_init_11 (fun H locs hw => ?_)
  have hw : fw g ad (fU (fU M lb (.inr (4, pV (upd f 0 x)))) lb (.inr (4, pV (upd (upd f 0 x) 1 w)))) s H locs := hw
  rw [fU_U] at hw
  have hM : (fU M lb (.inr (4, pV (upd (upd f 0 x) 1 w)))) lb = some (.inr (4, pV (upd (upd f 0 x) 1 w))) := fU_s
  exact f_vret X hw ⟨rfl, rfl⟩ (Nat.le_refl _) (Nat.le_refl _) dX3_init_14
set_option maxHeartbeats 4000000 in
set_option maxRecDepth 100000 in
theorem c_X3_giveUpTo (l : Launch) (g : fG) (ad : Nat → Nat) (M : fM) {lb : Nat} {f : Nat → Int32} (hM : M lb = some (.inr (4, pV f))) (w : Int32) : fCi l g yX3_giveUpTo cX3_giveUpTo 3 ((some .int)) 1 14 0 0 ad M [.ref (ad lb), .int w] (fDi ad (fU M lb (.inr (4, pV (upd f 1 (f 1 - pGive f w))))) (pGive f w)) := by
  refine f_body (own := RX3) (by decide +kernel) rfl (Nat.le_of_ble_eq_true rfl) ?_
  intro p e s m args below meth c ls X hw hin hl
  have hx := X.1
  have hb := X.2.1
  have hl : lv_has ls 3 [(0, .ref (ad lb)), (1, .int w)] := hl
  refine lv_iconst (v := 0) hx hb dX3_giveUpTo_0 (by decide) ?_
  refine lv_iload_n hx hb dX3_giveUpTo_1 rfl (lv_at hl 1 rfl) ?_
  refine lv_aload_n hx hb dX3_giveUpTo_2 rfl (lv_at hl 0 rfl) ?_
  refine f_get X hw hM fc4 1 (by decide) wq238 rfl (v := .int (f 1)) rfl dX3_giveUpTo_3 ?_
  refine va_mmin hx hb (X.2.2.1.trans hl.1.symm) X.2.2.2.1 (X.2.2.2.2.1 _ wq371) (X.2.2.2.2.1 _ wq204) (X.2.2.2.2.1 _ wq18) (X.2.2.2.2.1 _ wq205) (Nat.le_of_ble_eq_true rfl) (Nat.le_of_ble_eq_true rfl) (Nat.zero_le _) (Nat.zero_le _) dX3_giveUpTo_6 ?_
  refine f_top (y := iMin w (f 1)) rfl ?_
  refine va_mmax hx hb (X.2.2.1.trans hl.1.symm) X.2.2.2.1 (X.2.2.2.2.1 _ wq372) (X.2.2.2.2.1 _ wq173) (X.2.2.2.2.1 _ wq18) (X.2.2.2.2.1 _ wq174) (Nat.le_of_ble_eq_true rfl) (Nat.le_of_ble_eq_true rfl) (Nat.zero_le _) (Nat.zero_le _) dX3_giveUpTo_9 ?_
  refine f_top (y := iMax 0 (iMin w (f 1))) rfl ?_
  refine lv_istore_n (lv' := [(2, .int (iMax 0 (iMin w (f 1)))), (0, .ref (ad lb)), (1, .int w)]) hx hb dX3_giveUpTo_12 rfl hl (by decide) rfl (fun ls hl => ?_)
  refine lv_aload_n hx hb dX3_giveUpTo_13 rfl (lv_at hl 1 rfl) ?_
  refine lv_dup hx hb dX3_giveUpTo_14 rfl ?_
  refine f_get X hw hM fc4 1 (by decide) wq238 rfl (v := .int (f 1)) rfl dX3_giveUpTo_15 ?_
  refine lv_iload_n hx hb dX3_giveUpTo_18 rfl (lv_at hl 0 rfl) ?_
  refine lv_isub hx hb dX3_giveUpTo_19 ?_
  refine f_put X hw hM fc4 1 (by decide) wq238 rfl rfl (v := .int ((f 1) - (iMax 0 (iMin w (f 1))))) rfl rfl (Nat.le_of_ble_eq_true rfl) dX3_giveUpTo_20 (fun H locs hw => ?_)
  have hw : fw g ad (fU M lb (.inr (4, pV (upd f 1 ((f 1) - (iMax 0 (iMin w (f 1)))))))) s H locs := hw
  have hM : (fU M lb (.inr (4, pV (upd f 1 ((f 1) - (iMax 0 (iMin w (f 1)))))))) lb = some (.inr (4, pV (upd f 1 ((f 1) - (iMax 0 (iMin w (f 1))))))) := fU_s
  refine lv_iload_n hx hb dX3_giveUpTo_23 rfl (lv_at hl 0 rfl) ?_
  exact f_iret X hw ⟨rfl, rfl, rfl⟩ (Nat.le_refl _) (Nat.le_refl _) dX3_giveUpTo_24
set_option maxHeartbeats 4000000 in
set_option maxRecDepth 100000 in
theorem c_X0_init (l : Launch) (g : fG) (ad : Nat → Nat) (M : fM) {lb : Nat} {f : Nat → Int32} (hM : M lb = some (.inr (1, eV f))) (x w z : Int32) : fCv l g yX0_init cX0_init 4 1 12 0 0 ad M [.ref (ad lb), .int x, .int w, .int z] (fDv ad (fU M lb (.inr (1, eV (upd (upd (upd (upd (upd (upd f 0 x) 1 w) 2 z) 3 60) 6 (-1)) 7 (-1)))))) := by
  refine f_body (own := RX0) (by decide +kernel) rfl (Nat.le_of_ble_eq_true rfl) ?_
  intro p e s m args below meth c ls X hw hin hl
  have hx := X.1
  have hb := X.2.1
  have hl : lv_has ls 4 [(0, .ref (ad lb)), (1, .int x), (2, .int w), (3, .int z)] := hl
  refine lv_aload_n hx hb dX0_init_0 rfl (lv_at hl 0 rfl) ?_
  refine W.objInit hx hb X.2.2.2.1 (X.2.2.2.2.1 _ wq255) (X.2.2.2.2.1 _ wq29) (X.2.2.2.2.1 _ wq30) rfl (by rw [X.2.2.1]; exact hl.1) rfl dX0_init_1 (Nat.le_of_ble_eq_true rfl) (Nat.le_of_ble_eq_true rfl) ?_
  refine W.eq (g2 := F0 m 4 ls []) rfl ?_
  refine lv_aload_n hx hb dX0_init_4 rfl (lv_at hl 0 rfl) ?_
  refine lv_iload_n hx hb dX0_init_5 rfl (lv_at hl 1 rfl) ?_
  refine f_put X hw hM fc1 0 (by decide) wq256 rfl rfl (v := .int x) rfl rfl (Nat.le_of_ble_eq_true rfl) dX0_init_6 (fun H locs hw => ?_)
  have hw : fw g ad (fU M lb (.inr (1, eV (upd f 0 x)))) s H locs := hw
  have hM : (fU M lb (.inr (1, eV (upd f 0 x)))) lb = some (.inr (1, eV (upd f 0 x))) := fU_s
  refine lv_aload_n hx hb dX0_init_9 rfl (lv_at hl 0 rfl) ?_
  refine lv_iload_n hx hb dX0_init_10 rfl (lv_at hl 2 rfl) ?_
  refine f_put X hw hM fc1 1 (by decide) wq259 rfl rfl (v := .int w) rfl rfl (Nat.le_of_ble_eq_true rfl) dX0_init_11 (fun H locs hw => ?_)
  have hw : fw g ad (fU (fU M lb (.inr (1, eV (upd f 0 x)))) lb (.inr (1, eV (upd (upd f 0 x) 1 w)))) s H locs := hw
  rw [fU_U] at hw
  have hM : (fU M lb (.inr (1, eV (upd (upd f 0 x) 1 w)))) lb = some (.inr (1, eV (upd (upd f 0 x) 1 w))) := fU_s
  refine lv_aload_n hx hb dX0_init_14 rfl (lv_at hl 0 rfl) ?_
  refine lv_iload_n hx hb dX0_init_15 rfl (lv_at hl 3 rfl) ?_
  refine f_put X hw hM fc1 2 (by decide) wq261 rfl rfl (v := .int z) rfl rfl (Nat.le_of_ble_eq_true rfl) dX0_init_16 (fun H locs hw => ?_)
  have hw : fw g ad (fU (fU M lb (.inr (1, eV (upd (upd f 0 x) 1 w)))) lb (.inr (1, eV (upd (upd (upd f 0 x) 1 w) 2 z)))) s H locs := hw
  rw [fU_U] at hw
  have hM : (fU M lb (.inr (1, eV (upd (upd (upd f 0 x) 1 w) 2 z)))) lb = some (.inr (1, eV (upd (upd (upd f 0 x) 1 w) 2 z))) := fU_s
  refine lv_aload_n hx hb dX0_init_19 rfl (lv_at hl 0 rfl) ?_
  refine lv_bipush (v := 60) hx hb dX0_init_20 (by decide) ?_
  refine f_put X hw hM fc1 3 (by decide) wq263 rfl rfl (v := .int 60) rfl rfl (Nat.le_of_ble_eq_true rfl) dX0_init_22 (fun H locs hw => ?_)
  have hw : fw g ad (fU (fU M lb (.inr (1, eV (upd (upd (upd f 0 x) 1 w) 2 z)))) lb (.inr (1, eV (upd (upd (upd (upd f 0 x) 1 w) 2 z) 3 60)))) s H locs := hw
  rw [fU_U] at hw
  have hM : (fU M lb (.inr (1, eV (upd (upd (upd (upd f 0 x) 1 w) 2 z) 3 60)))) lb = some (.inr (1, eV (upd (upd (upd (upd f 0 x) 1 w) 2 z) 3 60))) := fU_s
  refine lv_aload_n hx hb dX0_init_25 rfl (lv_at hl 0 rfl) ?_
  refine lv_iconst (v := (-1)) hx hb dX0_init_26 (by decide) ?_
  refine f_put X hw hM fc1 6 (by decide) wq271 rfl rfl (v := .int (-1)) rfl rfl (Nat.le_of_ble_eq_true rfl) dX0_init_27 (fun H locs hw => ?_)
  have hw : fw g ad (fU (fU M lb (.inr (1, eV (upd (upd (upd (upd f 0 x) 1 w) 2 z) 3 60)))) lb (.inr (1, eV (upd (upd (upd (upd (upd f 0 x) 1 w) 2 z) 3 60) 6 (-1))))) s H locs := hw
  rw [fU_U] at hw
  have hM : (fU M lb (.inr (1, eV (upd (upd (upd (upd (upd f 0 x) 1 w) 2 z) 3 60) 6 (-1))))) lb = some (.inr (1, eV (upd (upd (upd (upd (upd f 0 x) 1 w) 2 z) 3 60) 6 (-1)))) := fU_s
  refine lv_aload_n hx hb dX0_init_30 rfl (lv_at hl 0 rfl) ?_
  refine lv_iconst (v := (-1)) hx hb dX0_init_31 (by decide) ?_
  refine f_put X hw hM fc1 7 (by decide) wq273 rfl rfl (v := .int (-1)) rfl rfl (Nat.le_of_ble_eq_true rfl) dX0_init_32 (fun H locs hw => ?_)
  have hw : fw g ad (fU (fU M lb (.inr (1, eV (upd (upd (upd (upd (upd f 0 x) 1 w) 2 z) 3 60) 6 (-1))))) lb (.inr (1, eV (upd (upd (upd (upd (upd (upd f 0 x) 1 w) 2 z) 3 60) 6 (-1)) 7 (-1))))) s H locs := hw
  rw [fU_U] at hw
  have hM : (fU M lb (.inr (1, eV (upd (upd (upd (upd (upd (upd f 0 x) 1 w) 2 z) 3 60) 6 (-1)) 7 (-1))))) lb = some (.inr (1, eV (upd (upd (upd (upd (upd (upd f 0 x) 1 w) 2 z) 3 60) 6 (-1)) 7 (-1)))) := fU_s
  exact f_vret X hw ⟨rfl, rfl⟩ (Nat.le_refl _) (Nat.le_refl _) dX0_init_35
set_option maxHeartbeats 4000000 in
set_option maxRecDepth 100000 in
theorem c_X0_stands (l : Launch) (g : fG) (ad : Nat → Nat) (M : fM) {lb : Nat} {f : Nat → Int32} (hM : M lb = some (.inr (1, eV f))) : fCi l g yX0_stands cX0_stands 1 ((some .boolean)) 0 0 0 0 ad M [.ref (ad lb)] (fDi ad M (bI (eStands f))) := by
  refine f_body (own := RX0) (by decide +kernel) rfl (Nat.le_of_ble_eq_true rfl) ?_
  intro p e s m args below meth c ls X hw hin hl
  have hx := X.1
  have hb := X.2.1
  have hl : lv_has ls 1 [(0, .ref (ad lb))] := hl
  refine lv_aload_n hx hb dX0_stands_0 rfl (lv_at hl 0 rfl) ?_
  refine f_get X hw hM fc1 5 (by decide) wq268 rfl (v := .int (f 5)) rfl dX0_stands_1 ?_
  refine lv_if_ne (tgt := 11) hx hb dX0_stands_4 (by decide) (fun c_1 => ?_) (fun c_1 => ?_)
  · refine lv_iconst (v := 0) hx hb dX0_stands_11 (by decide) ?_
    exact f_zret X hw rfl ⟨rfl, rfl, by simp [eStands, bI, c_1]⟩ (Nat.le_refl _) (Nat.le_refl _) dX0_stands_12
  · refine lv_iconst (v := 1) hx hb dX0_stands_7 (by decide) ?_
    refine lv_goto (tgt := 12) hx hb dX0_stands_8 (by decide) ?_
    exact f_zret X hw rfl ⟨rfl, rfl, by simp [eStands, bI, c_1]⟩ (Nat.le_refl _) (Nat.le_refl _) dX0_stands_12
set_option maxHeartbeats 4000000 in
set_option maxRecDepth 100000 in
theorem c_X0_canPump (l : Launch) (g : fG) (ad : Nat → Nat) (M : fM) {lb : Nat} {f : Nat → Int32} (hM : M lb = some (.inr (1, eV f))) : fCi l g yX0_canPump cX0_canPump 1 ((some .int)) 1 20 0 0 ad M [.ref (ad lb)] (fDi ad M (ePump f)) := by
  refine f_body (own := RX0) (by decide +kernel) rfl (Nat.le_of_ble_eq_true rfl) ?_
  intro p e s m args below meth c ls X hw hin hl
  have hx := X.1
  have hb := X.2.1
  have hl : lv_has ls 1 [(0, .ref (ad lb))] := hl
  refine lv_aload_n hx hb dX0_canPump_0 rfl (lv_at hl 0 rfl) ?_
  refine fk_di (fcV X hw (c_X0_stands l g ad M hM) hM rfl wq331 kVX0_stands ⟨(Nat.le_of_ble_eq_true rfl), (Nat.le_of_ble_eq_true rfl)⟩ rfl hl.1 rfl (Nat.le_of_ble_eq_true rfl) dX0_canPump_1 ⟨Nat.le_refl _, Nat.le_refl _⟩) hw (fun H locs hw => ?_)
  refine lv_if_eq (tgt := 31) hx hb dX0_canPump_4 (by decide) (fun c_1 => ?_) (fun c_1 => ?_)
  · have c_1 := bI_f.mp c_1
    refine lv_iconst (v := 0) hx hb dX0_canPump_31 (by decide) ?_
    exact f_iret X hw ⟨rfl, rfl, by simp [ePump, c_1]⟩ (Nat.le_refl _) (Nat.le_refl _) dX0_canPump_32
  · have c_1 := bI_nf.mp c_1
    refine lv_aload_n hx hb dX0_canPump_7 rfl (lv_at hl 0 rfl) ?_
    refine f_get X hw hM fc1 4 (by decide) wq266 rfl (v := .int (f 4)) rfl dX0_canPump_8 ?_
    refine lv_bipush (v := 20) hx hb dX0_canPump_11 (by decide) ?_
    refine lv_icmp_lt (tgt := 31) hx hb dX0_canPump_13 (by decide) (fun c_2 => ?_) (fun c_2 => ?_)
    · refine lv_iconst (v := 0) hx hb dX0_canPump_31 (by decide) ?_
      exact f_iret X hw ⟨rfl, rfl, by simp [ePump, c_1, c_2, Int32.not_le.mpr c_2]⟩ (Nat.le_refl _) (Nat.le_refl _) dX0_canPump_32
    · refine lv_aload_n hx hb dX0_canPump_16 rfl (lv_at hl 0 rfl) ?_
      refine f_get X hw hM fc1 2 (by decide) wq261 rfl (v := .int (f 2)) rfl dX0_canPump_17 ?_
      refine lv_aload_n hx hb dX0_canPump_20 rfl (lv_at hl 0 rfl) ?_
      refine f_get X hw hM fc1 4 (by decide) wq266 rfl (v := .int (f 4)) rfl dX0_canPump_21 ?_
      refine lv_imul hx hb dX0_canPump_24 ?_
      refine lv_bipush (v := 20) hx hb dX0_canPump_25 (by decide) ?_
      refine lv_idiv hx hb dX0_canPump_27 (by decide) ?_
      refine lv_goto (tgt := 32) hx hb dX0_canPump_28 (by decide) ?_
      exact f_iret X hw ⟨rfl, rfl, by simp [ePump, c_1, c_2, Int32.not_lt.mp c_2]⟩ (Nat.le_refl _) (Nat.le_refl _) dX0_canPump_32
set_option maxHeartbeats 4000000 in
set_option maxRecDepth 100000 in
theorem c_X0_setOut (l : Launch) (g : fG) (ad : Nat → Nat) (M : fM) {lb : Nat} {f : Nat → Int32} (hM : M lb = some (.inr (1, eV f))) (x w : Int32) : fCv l g yX0_setOut cX0_setOut 3 0 0 0 0 ad M [.ref (ad lb), .int x, .int w] (fDv ad (fU M lb (.inr (1, eV (eSetOut f x w))))) := by
  refine f_body (own := RX0) (by decide +kernel) rfl (Nat.le_of_ble_eq_true rfl) ?_
  intro p e s m args below meth c ls X hw hin hl
  have hx := X.1
  have hb := X.2.1
  have hl : lv_has ls 3 [(0, .ref (ad lb)), (1, .int x), (2, .int w)] := hl
  refine lv_aload_n hx hb dX0_setOut_0 rfl (lv_at hl 0 rfl) ?_
  refine lv_iload_n hx hb dX0_setOut_1 rfl (lv_at hl 1 rfl) ?_
  refine f_put X hw hM fc1 6 (by decide) wq271 rfl rfl (v := .int x) rfl rfl (Nat.le_of_ble_eq_true rfl) dX0_setOut_2 (fun H locs hw => ?_)
  have hw : fw g ad (fU M lb (.inr (1, eV (upd f 6 x)))) s H locs := hw
  have hM : (fU M lb (.inr (1, eV (upd f 6 x)))) lb = some (.inr (1, eV (upd f 6 x))) := fU_s
  refine lv_aload_n hx hb dX0_setOut_5 rfl (lv_at hl 0 rfl) ?_
  refine lv_iload_n hx hb dX0_setOut_6 rfl (lv_at hl 2 rfl) ?_
  refine lv_iconst (v := 5) hx hb dX0_setOut_7 (by decide) ?_
  refine lv_aload_n hx hb dX0_setOut_8 rfl (lv_at hl 0 rfl) ?_
  refine f_get X hw hM fc1 1 (by decide) wq259 rfl (v := .int (f 1)) rfl dX0_setOut_9 ?_
  refine lv_isub hx hb dX0_setOut_12 ?_
  refine lv_imul hx hb dX0_setOut_13 ?_
  refine f_put X hw hM fc1 5 (by decide) wq268 rfl rfl (v := .int (w * (5 - (f 1)))) rfl rfl (Nat.le_of_ble_eq_true rfl) dX0_setOut_14 (fun H locs hw => ?_)
  have hw : fw g ad (fU (fU M lb (.inr (1, eV (upd f 6 x)))) lb (.inr (1, eV (upd (upd f 6 x) 5 (w * (5 - (f 1))))))) s H locs := hw
  rw [fU_U] at hw
  have hM : (fU M lb (.inr (1, eV (upd (upd f 6 x) 5 (w * (5 - (f 1))))))) lb = some (.inr (1, eV (upd (upd f 6 x) 5 (w * (5 - (f 1)))))) := fU_s
  exact f_vret X hw ⟨rfl, rfl⟩ (Nat.le_refl _) (Nat.le_refl _) dX0_setOut_17
set_option maxHeartbeats 4000000 in
set_option maxRecDepth 100000 in
theorem c_X0_fire (l : Launch) (g : fG) (ad : Nat → Nat) (M : fM) {lb : Nat} {f : Nat → Int32} (hM : M lb = some (.inr (1, eV f))) : fCv l g yX0_fire cX0_fire 1 1 14 0 0 ad M [.ref (ad lb)] (fDv ad (fU M lb (.inr (1, eV (eFire f))))) := by
  refine f_body (own := RX0) (by decide +kernel) rfl (Nat.le_of_ble_eq_true rfl) ?_
  intro p e s m args below meth c ls X hw hin hl
  have hx := X.1
  have hb := X.2.1
  have hl : lv_has ls 1 [(0, .ref (ad lb))] := hl
  refine lv_aload_n hx hb dX0_fire_0 rfl (lv_at hl 0 rfl) ?_
  refine f_get X hw hM fc1 3 (by decide) wq263 rfl (v := .int (f 3)) rfl dX0_fire_1 ?_
  refine lv_if_le (tgt := 35) hx hb dX0_fire_4 (by decide) (fun c_1 => ?_) (fun c_1 => ?_)
  · refine lv_aload_n hx hb dX0_fire_35 rfl (lv_at hl 0 rfl) ?_
    refine lv_iconst (v := 0) hx hb dX0_fire_36 (by decide) ?_
    refine lv_aload_n hx hb dX0_fire_37 rfl (lv_at hl 0 rfl) ?_
    refine f_get X hw hM fc1 4 (by decide) wq266 rfl (v := .int (f 4)) rfl dX0_fire_38 ?_
    refine lv_iconst (v := 3) hx hb dX0_fire_41 (by decide) ?_
    refine lv_isub hx hb dX0_fire_42 ?_
    refine va_mmax hx hb (X.2.2.1.trans hl.1.symm) X.2.2.2.1 (X.2.2.2.2.1 _ wq326) (X.2.2.2.2.1 _ wq173) (X.2.2.2.2.1 _ wq18) (X.2.2.2.2.1 _ wq174) (Nat.le_of_ble_eq_true rfl) (Nat.le_of_ble_eq_true rfl) (Nat.zero_le _) (Nat.zero_le _) dX0_fire_43 ?_
    refine f_top (y := iMax 0 ((f 4) - 3)) rfl ?_
    refine f_put X hw hM fc1 4 (by decide) wq266 rfl rfl (v := .int (iMax 0 ((f 4) - 3))) rfl rfl (Nat.le_of_ble_eq_true rfl) dX0_fire_46 (fun H locs hw => ?_)
    have hw : fw g ad (fU M lb (.inr (1, eV (upd f 4 (iMax 0 ((f 4) - 3)))))) s H locs := hw
    have hM : (fU M lb (.inr (1, eV (upd f 4 (iMax 0 ((f 4) - 3)))))) lb = some (.inr (1, eV (upd f 4 (iMax 0 ((f 4) - 3))))) := fU_s
    exact f_vret X hw ⟨rfl, by simp only [eFire, c_1, if_true, if_false]⟩ (Nat.le_refl _) (Nat.le_refl _) dX0_fire_49
  · refine lv_aload_n hx hb dX0_fire_7 rfl (lv_at hl 0 rfl) ?_
    refine lv_dup hx hb dX0_fire_8 rfl ?_
    refine f_get X hw hM fc1 3 (by decide) wq263 rfl (v := .int (f 3)) rfl dX0_fire_9 ?_
    refine lv_iconst (v := 1) hx hb dX0_fire_12 (by decide) ?_
    refine lv_isub hx hb dX0_fire_13 ?_
    refine f_put X hw hM fc1 3 (by decide) wq263 rfl rfl (v := .int ((f 3) - 1)) rfl rfl (Nat.le_of_ble_eq_true rfl) dX0_fire_14 (fun H locs hw => ?_)
    have hw : fw g ad (fU M lb (.inr (1, eV (upd f 3 ((f 3) - 1))))) s H locs := hw
    have hM : (fU M lb (.inr (1, eV (upd f 3 ((f 3) - 1))))) lb = some (.inr (1, eV (upd f 3 ((f 3) - 1)))) := fU_s
    refine lv_aload_n hx hb dX0_fire_17 rfl (lv_at hl 0 rfl) ?_
    refine lv_bipush (v := 100) hx hb dX0_fire_18 (by decide) ?_
    refine lv_aload_n hx hb dX0_fire_20 rfl (lv_at hl 0 rfl) ?_
    refine f_get X hw hM fc1 4 (by decide) wq266 rfl (v := .int (f 4)) rfl dX0_fire_21 ?_
    refine lv_iconst (v := 4) hx hb dX0_fire_24 (by decide) ?_
    refine lv_iadd hx hb dX0_fire_25 ?_
    refine va_mmin hx hb (X.2.2.1.trans hl.1.symm) X.2.2.2.1 (X.2.2.2.2.1 _ wq325) (X.2.2.2.2.1 _ wq204) (X.2.2.2.2.1 _ wq18) (X.2.2.2.2.1 _ wq205) (Nat.le_of_ble_eq_true rfl) (Nat.le_of_ble_eq_true rfl) (Nat.zero_le _) (Nat.zero_le _) dX0_fire_26 ?_
    refine f_top (y := iMin 100 ((f 4) + 4)) rfl ?_
    refine f_put X hw hM fc1 4 (by decide) wq266 rfl rfl (v := .int (iMin 100 ((f 4) + 4))) rfl rfl (Nat.le_of_ble_eq_true rfl) dX0_fire_29 (fun H locs hw => ?_)
    have hw : fw g ad (fU (fU M lb (.inr (1, eV (upd f 3 ((f 3) - 1))))) lb (.inr (1, eV (upd (upd f 3 ((f 3) - 1)) 4 (iMin 100 ((f 4) + 4)))))) s H locs := hw
    rw [fU_U] at hw
    have hM : (fU M lb (.inr (1, eV (upd (upd f 3 ((f 3) - 1)) 4 (iMin 100 ((f 4) + 4)))))) lb = some (.inr (1, eV (upd (upd f 3 ((f 3) - 1)) 4 (iMin 100 ((f 4) + 4))))) := fU_s
    refine lv_goto (tgt := 49) hx hb dX0_fire_32 (by decide) ?_
    exact f_vret X hw ⟨rfl, by simp only [eFire, c_1, if_true, if_false]⟩ (Nat.le_refl _) (Nat.le_refl _) dX0_fire_49
set_option maxHeartbeats 4000000 in
set_option maxRecDepth 100000 in
theorem c_X0_driveAMinute (l : Launch) (g : fG) (ad : Nat → Nat) (M : fM) {lb : Nat} {f : Nat → Int32} (hM : M lb = some (.inr (1, eV f))) : fCv l g yX0_driveAMinute cX0_driveAMinute 1 1 20 0 0 ad M [.ref (ad lb)] (fDv ad (fU M lb (.inr (1, eV (eDrive f))))) := by
  refine f_body (own := RX0) (by decide +kernel) rfl (Nat.le_of_ble_eq_true rfl) ?_
  intro p e s m args below meth c ls X hw hin hl
  have hx := X.1
  have hb := X.2.1
  have hl : lv_has ls 1 [(0, .ref (ad lb))] := hl
  refine lv_aload_n hx hb dX0_driveAMinute_0 rfl (lv_at hl 0 rfl) ?_
  refine fk_di (fcV X hw (c_X0_stands l g ad M hM) hM rfl wq331 kVX0_stands ⟨(Nat.le_of_ble_eq_true rfl), (Nat.le_of_ble_eq_true rfl)⟩ rfl hl.1 rfl (Nat.le_of_ble_eq_true rfl) dX0_driveAMinute_1 ⟨Nat.le_refl _, Nat.le_refl _⟩) hw (fun H locs hw => ?_)
  refine lv_if_eq (tgt := 8) hx hb dX0_driveAMinute_4 (by decide) (fun c_1 => ?_) (fun c_1 => ?_)
  · have c_1 := bI_f.mp c_1
    refine lv_aload_n hx hb dX0_driveAMinute_8 rfl (lv_at hl 0 rfl) ?_
    refine lv_dup hx hb dX0_driveAMinute_9 rfl ?_
    refine f_get X hw hM fc1 5 (by decide) wq268 rfl (v := .int (f 5)) rfl dX0_driveAMinute_10 ?_
    refine lv_iconst (v := 1) hx hb dX0_driveAMinute_13 (by decide) ?_
    refine lv_isub hx hb dX0_driveAMinute_14 ?_
    refine f_put X hw hM fc1 5 (by decide) wq268 rfl rfl (v := .int ((f 5) - 1)) rfl rfl (Nat.le_of_ble_eq_true rfl) dX0_driveAMinute_15 (fun H locs hw => ?_)
    have hw : fw g ad (fU M lb (.inr (1, eV (upd f 5 ((f 5) - 1))))) s H locs := hw
    have hM : (fU M lb (.inr (1, eV (upd f 5 ((f 5) - 1))))) lb = some (.inr (1, eV (upd f 5 ((f 5) - 1)))) := fU_s
    refine lv_aload_n hx hb dX0_driveAMinute_18 rfl (lv_at hl 0 rfl) ?_
    refine f_get X hw hM fc1 5 (by decide) wq268 rfl (v := .int ((f 5) - 1)) rfl dX0_driveAMinute_19 ?_
    refine lv_if_ne (tgt := 38) hx hb dX0_driveAMinute_22 (by decide) (fun c_2 => ?_) (fun c_2 => ?_)
    · exact f_vret X hw ⟨rfl, by simp only [eDrive, c_1, c_2, Bool.false_eq_true, if_true, if_false]⟩ (Nat.le_refl _) (Nat.le_refl _) dX0_driveAMinute_38
    · refine lv_aload_n hx hb dX0_driveAMinute_25 rfl (lv_at hl 0 rfl) ?_
      refine lv_aload_n hx hb dX0_driveAMinute_26 rfl (lv_at hl 0 rfl) ?_
      refine f_get X hw hM fc1 6 (by decide) wq271 rfl (v := .int (f 6)) rfl dX0_driveAMinute_27 ?_
      refine f_put X hw hM fc1 0 (by decide) wq256 rfl rfl (v := .int (f 6)) rfl rfl (Nat.le_of_ble_eq_true rfl) dX0_driveAMinute_30 (fun H locs hw => ?_)
      have hw : fw g ad (fU (fU M lb (.inr (1, eV (upd f 5 ((f 5) - 1))))) lb (.inr (1, eV (upd (upd f 5 ((f 5) - 1)) 0 (f 6))))) s H locs := hw
      rw [fU_U] at hw
      have hM : (fU M lb (.inr (1, eV (upd (upd f 5 ((f 5) - 1)) 0 (f 6))))) lb = some (.inr (1, eV (upd (upd f 5 ((f 5) - 1)) 0 (f 6)))) := fU_s
      refine lv_aload_n hx hb dX0_driveAMinute_33 rfl (lv_at hl 0 rfl) ?_
      refine lv_iconst (v := (-1)) hx hb dX0_driveAMinute_34 (by decide) ?_
      refine f_put X hw hM fc1 6 (by decide) wq271 rfl rfl (v := .int (-1)) rfl rfl (Nat.le_of_ble_eq_true rfl) dX0_driveAMinute_35 (fun H locs hw => ?_)
      have hw : fw g ad (fU (fU M lb (.inr (1, eV (upd (upd f 5 ((f 5) - 1)) 0 (f 6))))) lb (.inr (1, eV (upd (upd (upd f 5 ((f 5) - 1)) 0 (f 6)) 6 (-1))))) s H locs := hw
      rw [fU_U] at hw
      have hM : (fU M lb (.inr (1, eV (upd (upd (upd f 5 ((f 5) - 1)) 0 (f 6)) 6 (-1))))) lb = some (.inr (1, eV (upd (upd (upd f 5 ((f 5) - 1)) 0 (f 6)) 6 (-1)))) := fU_s
      exact f_vret X hw ⟨rfl, by simp only [eDrive, c_1, c_2, Bool.false_eq_true, if_true, if_false]⟩ (Nat.le_refl _) (Nat.le_refl _) dX0_driveAMinute_38
  · have c_1 := bI_nf.mp c_1
    exact f_vret X hw ⟨rfl, by simp only [eDrive, c_1, if_true, if_false]; exact (fU_same hM).symm⟩ (Nat.le_refl _) (Nat.le_refl _) dX0_driveAMinute_7
set_option maxHeartbeats 4000000 in
set_option maxRecDepth 100000 in
theorem c_X0_spendSteam (l : Launch) (g : fG) (ad : Nat → Nat) (M : fM) {lb : Nat} {f : Nat → Int32} (hM : M lb = some (.inr (1, eV f))) : fCv l g yX0_spendSteam cX0_spendSteam 1 1 14 0 0 ad M [.ref (ad lb)] (fDv ad (fU M lb (.inr (1, eV (eSpend f))))) := by
  refine f_body (own := RX0) (by decide +kernel) rfl (Nat.le_of_ble_eq_true rfl) ?_
  intro p e s m args below meth c ls X hw hin hl
  have hx := X.1
  have hb := X.2.1
  have hl : lv_has ls 1 [(0, .ref (ad lb))] := hl
  refine lv_aload_n hx hb dX0_spendSteam_0 rfl (lv_at hl 0 rfl) ?_
  refine f_get X hw hM fc1 9 (by decide) wq278 rfl (v := .int (f 9)) rfl dX0_spendSteam_1 ?_
  refine lv_if_le (tgt := 21) hx hb dX0_spendSteam_4 (by decide) (fun c_1 => ?_) (fun c_1 => ?_)
  · exact f_vret X hw ⟨rfl, by simp only [eSpend, c_1, if_true, if_false]; exact (fU_same hM).symm⟩ (Nat.le_refl _) (Nat.le_refl _) dX0_spendSteam_21
  · refine lv_aload_n hx hb dX0_spendSteam_7 rfl (lv_at hl 0 rfl) ?_
    refine lv_iconst (v := 0) hx hb dX0_spendSteam_8 (by decide) ?_
    refine lv_aload_n hx hb dX0_spendSteam_9 rfl (lv_at hl 0 rfl) ?_
    refine f_get X hw hM fc1 4 (by decide) wq266 rfl (v := .int (f 4)) rfl dX0_spendSteam_10 ?_
    refine lv_iconst (v := 2) hx hb dX0_spendSteam_13 (by decide) ?_
    refine lv_isub hx hb dX0_spendSteam_14 ?_
    refine va_mmax hx hb (X.2.2.1.trans hl.1.symm) X.2.2.2.1 (X.2.2.2.2.1 _ wq326) (X.2.2.2.2.1 _ wq173) (X.2.2.2.2.1 _ wq18) (X.2.2.2.2.1 _ wq174) (Nat.le_of_ble_eq_true rfl) (Nat.le_of_ble_eq_true rfl) (Nat.zero_le _) (Nat.zero_le _) dX0_spendSteam_15 ?_
    refine f_top (y := iMax 0 ((f 4) - 2)) rfl ?_
    refine f_put X hw hM fc1 4 (by decide) wq266 rfl rfl (v := .int (iMax 0 ((f 4) - 2))) rfl rfl (Nat.le_of_ble_eq_true rfl) dX0_spendSteam_18 (fun H locs hw => ?_)
    have hw : fw g ad (fU M lb (.inr (1, eV (upd f 4 (iMax 0 ((f 4) - 2)))))) s H locs := hw
    have hM : (fU M lb (.inr (1, eV (upd f 4 (iMax 0 ((f 4) - 2)))))) lb = some (.inr (1, eV (upd f 4 (iMax 0 ((f 4) - 2))))) := fU_s
    exact f_vret X hw ⟨rfl, by simp only [eSpend, c_1, if_true, if_false]⟩ (Nat.le_refl _) (Nat.le_refl _) dX0_spendSteam_21
end
section
/-! THE TOWN: its state as numbers, its cells, what is asked of it -/
abbrev fTn : Type := Int32 × (Nat × (Nat → Nat → Int32)) × (Nat × (Nat → Nat → Int32)) × (Nat × (Nat → Nat → Int32))
abbrev tM (t : fTn) : Int32 := t.1
abbrev tHn (t : fTn) : Nat := t.2.1.1
abbrev tH (t : fTn) : Nat → Nat → Int32 := t.2.1.2
abbrev tPn (t : fTn) : Nat := t.2.2.1.1
abbrev tP (t : fTn) : Nat → Nat → Int32 := t.2.2.1.2
abbrev tEn (t : fTn) : Nat := t.2.2.2.1
abbrev tE (t : fTn) : Nat → Nat → Int32 := t.2.2.2.2
/-- a town's cells: the town at the label b, its lists at b + 1 .. b + 3, their arrays at b + 4 .. b + 6, its houses at b + 100 .., ponds at b + 200 .., engines at b + 300 .. -/
def isTown (g : fG) (ad : Nat → Nat) (M : fM) (b : Nat) (T : fTn) : Prop :=
  M b = some (.inr (5, [.int (tM T), .ref (ad (b + 1)), .ref (ad (b + 2)), .ref (ad (b + 3))])) ∧
  fList g ad M (b + 1) (b + 4) (b + 100) (tHn T) ∧ fList g ad M (b + 2) (b + 5) (b + 200) (tPn T) ∧ fList g ad M (b + 3) (b + 6) (b + 300) (tEn T) ∧
  (∀ i, i < tHn T → M (b + 100 + i) = some (.inr (3, hV (tH T i)))) ∧ (∀ i, i < tPn T → M (b + 200 + i) = some (.inr (4, pV (tP T i)))) ∧ (∀ i, i < tEn T → M (b + 300 + i) = some (.inr (1, eV (tE T i)))) ∧
  tHn T ≤ 30 ∧ tPn T ≤ 6 ∧ tEn T ≤ 6 ∧ ∀ i, i < tEn T → tE T i 10 = 0 ∨ tE T i 10 = 1
theorem fList_obj {g : fG} {ad : Nat → Nat} {M : fM} {ll la eb n : Nat} (h : fList g ad M ll la eb n) : ∃ fs, M ll = some (.inr (0, fs)) := by
  obtain ⟨mo, d, N, f, h1, -⟩ := h
  exact ⟨_, h1⟩
theorem nI_le' {a b : Nat} (h : nI a ≤ nI b) (ha : a < 2 ^ 31) (hb : b < 2 ^ 31) : a ≤ b := (nI_leI ha hb).mp h
theorem nI_nle' {a b : Nat} (h : ¬ nI a ≤ nI b) (ha : a < 2 ^ 31) (hb : b < 2 ^ 31) : b < a := Nat.lt_of_not_le fun z => h ((nI_leI ha hb).mpr z)
theorem nI_lt' {a b : Nat} (h : nI a < nI b) (ha : a < 2 ^ 31) (hb : b < 2 ^ 31) : a < b := (nI_ltI ha hb).mp h
theorem nI_nlt' {a b : Nat} (h : ¬ nI a < nI b) (ha : a < 2 ^ 31) (hb : b < 2 ^ 31) : b ≤ a := Nat.le_of_not_lt fun z => h ((nI_ltI ha hb).mpr z)
theorem nI_eq' {a b : Nat} (h : nI a = nI b) (ha : a < 2 ^ 31) (hb : b < 2 ^ 31) : a = b := (nI_eq ha hb).mp h
theorem nI_neq' {a b : Nat} (h : ¬ nI a = nI b) (ha : a < 2 ^ 31) (hb : b < 2 ^ 31) : a ≠ b := fun z => h (by rw [z])
/-! cells of the map -/
def iMod (a : Int32) : Int32 := a - a / 14 * 14
def iAbs (x : Int32) : Int32 := if 0 ≤ x then x else 0 - x
def aOn (x y : Int32) : Bool := decide (¬ x < 0) && (decide (¬ 14 ≤ x) && (decide (¬ y < 0) && decide (¬ 10 ≤ y)))
def aDist (a b : Int32) : Int32 := iAbs (iMod a - iMod b) + iAbs (a / 14 - b / 14)
def aNear (a b : Int32) : Bool := decide (¬ a = b) && (decide (¬ 1 < (iMod a - iMod b) * (iMod a - iMod b)) && decide (¬ 1 < (a / 14 - b / 14) * (a / 14 - b / 14)))
/-! counts and sums -/
def cntH (f : Nat → Nat → Int32) (w : Int32) : Nat → Int32
  | 0 => 0
  | k + 1 => if f k 3 = w then cntH f w k + 1 else cntH f w k
def sumH (f : Nat → Nat → Int32) (w : Int32) : Nat → Int32
  | 0 => 0
  | k + 1 => sumH f w k + hTell (f k) w
def sumP (f : Nat → Nat → Int32) : Nat → Int32
  | 0 => 0
  | k + 1 => sumP f k + f k 1
def cntE (f : Nat → Nat → Int32) (w : Int32) : Nat → Int32
  | 0 => 0
  | k + 1 => if f k 0 = w then cntE f w k + 1 else cntE f w k
def anyGoal (f : Nat → Nat → Int32) (w : Int32) : Nat → Bool
  | 0 => false
  | k + 1 => anyGoal f w k || decide (f k 6 = w)
def heatN (f : Nat → Nat → Int32) (w : Int32) : Nat → Int32
  | 0 => 0
  | k + 1 => if f k 3 = 1 then (if aNear (f k 0) w = true then heatN f w k + f k 4 else heatN f w k) else heatN f w k
/-- the first of n places for which p holds, n if for none -/
def firstN (p : Nat → Bool) : Nat → Nat
  | 0 => 0
  | n + 1 => if p 0 = true then 0 else firstN (fun i => p (i + 1)) n + 1
theorem firstN_le (p : Nat → Bool) (n : Nat) : firstN p n ≤ n := by
  induction n generalizing p with
  | zero => exact Nat.le_refl 0
  | succ n ih =>
    unfold firstN
    split
    · exact Nat.zero_le _
    · exact Nat.succ_le_succ (ih _)
theorem firstN_no {p : Nat → Bool} {n k : Nat} (h : k < firstN p n) : p k = false := by
  induction n generalizing p k with
  | zero => exact absurd h (Nat.not_lt_zero _)
  | succ n ih =>
    unfold firstN at h
    split at h
    · exact absurd h (Nat.not_lt_zero _)
    · cases k with
      | zero => simp_all
      | succ k => exact ih (p := fun i => p (i + 1)) (by omega)
theorem firstN_yes {p : Nat → Bool} {n : Nat} (h : firstN p n < n) : p (firstN p n) = true := by
  induction n generalizing p with
  | zero => exact absurd h (Nat.not_lt_zero _)
  | succ n ih =>
    unfold firstN at h ⊢
    split
    · assumption
    · rename_i hp
      simp only [hp] at h
      exact ih (p := fun i => p (i + 1)) (by simpa using h)
theorem firstN_at {p : Nat → Bool} {n k : Nat} (hk : k < n) (h1 : p k = true) (h2 : ∀ j, j < k → p j = false) : firstN p n = k := by
  rcases Nat.lt_trichotomy (firstN p n) k with h | h | h
  · have := firstN_yes (p := p) (n := n) (by omega)
    rw [h2 _ h] at this
    cases this
  · exact h
  · rw [firstN_no h] at h1
    cases h1
theorem firstN_none {p : Nat → Bool} {n : Nat} (h : ∀ j, j < n → p j = false) : firstN p n = n := by
  rcases Nat.lt_or_ge (firstN p n) n with a | a
  · have := firstN_yes a
    rw [h _ a] at this
    cases this
  · exact Nat.le_antisymm (firstN_le p n) a
/-- as Java tells it: -1 for none -/
def jFirst (p : Nat → Bool) (n : Nat) : Int32 := if firstN p n < n then nI (firstN p n) else -1
def pondOf (T : fTn) (f : Nat → Int32) : Int32 := if eStands f = true then jFirst (fun i => aNear (tP T i 0) (f 0)) (tPn T) else -1
/-- what Town.tell says -/
def tTell (T : fTn) (w : Int32) : Int32 := if w = 0 then tM T else if w = 1 then nI (tHn T) else if w = 2 then cntH (tH T) 1 (tHn T) else if w = 3 then cntH (tH T) 2 (tHn T) else if w = 4 then cntH (tH T) 3 (tHn T) else if w = 5 then nI (tPn T) else if w = 6 then nI (tEn T) else if w = 7 then sumP (tP T) (tPn T) else if w = 8 then sumH (tH T) 4 (tHn T) else sumH (tH T) 6 (tHn T)
def eTell (T : fTn) (f : Nat → Int32) (w : Int32) : Int32 := if w = 0 then f 0 else if w = 1 then f 1 else if w = 2 then f 2 else if w = 3 then f 3 else if w = 4 then f 4 else if w = 5 then f 5 else if w = 6 then f 7 else if w = 7 then pondOf T f else if w = 8 then f 9 else ePump f
def isIx (n : Nat) (x : Int32) : Bool := decide (¬ x < 0) && decide (¬ nI n ≤ x)
/-- whether an engine that isn't asked yet has its hose at x -/
def waits (f : Nat → Nat → Int32) (x : Int32) : Nat → Bool
  | 0 => false
  | k + 1 => waits f x k || (decide (f k 10 = 0) && decide (f k 7 = x))
def nextE (T : fTn) : Int32 := jFirst (fun i => decide (tE T i 10 = 0) && !(waits (tE T) (nI i) (tEn T))) (tEn T)
/-- the hoses from 'at' on, at most n steps: whether one comes to 'to' -/
def leadsN (T : fTn) (to : Int32) : Nat → Int32 → Bool
  | 0, _ => false
  | n + 1, at0 => isIx (tEn T) at0 && (decide (at0 = to) || leadsN T to n (tE T at0.toNatClampNeg 7))
section FVE
variable {p : Program} {l : Launch} {e : Env} {R : Room} {s : State} {m : MethodId} {args : Array Value} {below : List Frame} {meth : Method} {c : Code} {H : Heap} {locs : List Loc} {cells slots : Nat} {Q : State → Prop}
variable {cc : ByteArray} {nL : Nat} {ret : Option FieldType} {own : String} {g : fG} {ad : Nat → Nat} {M : fM} {pc : Nat} {ls : Array Slot} {rest : List Value} {lb : Nat}
variable {y : MethodName} {bytes : ByteArray} {maxL fr lo mc ms n index : Nat} {rt : Option FieldType} {Qc : Array Value → State → Outcome → State → Prop} {As st0 : List Value} {free : Addr → Prop}
theorem fcVe (X : fX p s m args meth c cc nL ret own g) (hw : fw g ad M s H locs) (hC : Met l y (fWs y bytes maxL rt) (fR fr lo mc ms) (va_Pc (.ref (ad lb) :: As) (fS g ad M)) Qc mc ms free)
    {ci : Nat} {C : String} {T : u_T} {N : Nat} (hM : ∃ fs, M lb = some (.inr (ci, fs))) (hci : vwCl[ci]? = some (C, T, N)) (kl : Cond.methodLink own index y ∈ AL) (kv : fkV C y bytes maxL rt n) (hR : fr + 1 ≤ R.frames ∧ 8 + (maxL + 11) + lo ≤ R.locals) (hn : As.length = n) (hls : ls.size = nL) (hst : st0 = As.reverse ++ .ref (ad lb) :: rest) (hW : (rest.map fun v => v.category).sum ≤ 8) (hdg : decode cc pc = .ok (.invokevirtual index, 3)) (hf : cells + mc ≤ R.cells ∧ slots + ms ≤ R.slots) :
    va_Run p l e R s m args below meth c H locs cells slots mc ms (F0 m pc ls st0) rest (Qc (Value.ref (ad lb) :: As).toArray) free := by
  obtain ⟨fs, hM⟩ := hM
  exact fcV X hw hC hM hci kl kv hR hn hls hst hW hdg hf
end FVE
end
section
set_option maxHeartbeats 4000000 in
set_option maxRecDepth 100000 in
theorem c_isOnMap (l : Launch) (g : fG) (ad : Nat → Nat) (M : fM) (x y : Int32) : fCi l g yX5_isOnMap cX5_isOnMap 2 ((some .boolean)) 0 0 0 0 ad M [.int x, .int y] (fDi ad M (bI (aOn x y))) := by
  refine f_body (own := RX5) (by decide +kernel) rfl (Nat.le_of_ble_eq_true rfl) ?_
  intro p e s m args below meth c ls X hw hin hl
  have hx := X.1
  have hb := X.2.1
  have hl : lv_has ls 2 [(0, .int x), (1, .int y)] := hl
  refine lv_iload_n hx hb dX5_isOnMap_0 rfl (lv_at hl 0 rfl) ?_
  refine lv_if_lt (tgt := 24) hx hb dX5_isOnMap_1 (by decide) (fun c_1 => ?_) (fun c_1 => ?_)
  · refine lv_iconst (v := 0) hx hb dX5_isOnMap_24 (by decide) ?_
    exact f_zret X hw rfl ⟨rfl, rfl, by simp [aOn, bI, c_1]⟩ (Nat.le_refl _) (Nat.le_refl _) dX5_isOnMap_25
  · refine lv_iload_n hx hb dX5_isOnMap_4 rfl (lv_at hl 0 rfl) ?_
    refine lv_bipush (v := 14) hx hb dX5_isOnMap_5 (by decide) ?_
    refine lv_icmp_ge (tgt := 24) hx hb dX5_isOnMap_7 (by decide) (fun c_2 => ?_) (fun c_2 => ?_)
    · refine lv_iconst (v := 0) hx hb dX5_isOnMap_24 (by decide) ?_
      exact f_zret X hw rfl ⟨rfl, rfl, by simp [aOn, bI, c_1, c_2]⟩ (Nat.le_refl _) (Nat.le_refl _) dX5_isOnMap_25
    · refine lv_iload_n hx hb dX5_isOnMap_10 rfl (lv_at hl 1 rfl) ?_
      refine lv_if_lt (tgt := 24) hx hb dX5_isOnMap_11 (by decide) (fun c_3 => ?_) (fun c_3 => ?_)
      · refine lv_iconst (v := 0) hx hb dX5_isOnMap_24 (by decide) ?_
        exact f_zret X hw rfl ⟨rfl, rfl, by simp [aOn, bI, c_1, c_2, c_3]⟩ (Nat.le_refl _) (Nat.le_refl _) dX5_isOnMap_25
      · refine lv_iload_n hx hb dX5_isOnMap_14 rfl (lv_at hl 1 rfl) ?_
        refine lv_bipush (v := 10) hx hb dX5_isOnMap_15 (by decide) ?_
        refine lv_icmp_ge (tgt := 24) hx hb dX5_isOnMap_17 (by decide) (fun c_4 => ?_) (fun c_4 => ?_)
        · refine lv_iconst (v := 0) hx hb dX5_isOnMap_24 (by decide) ?_
          exact f_zret X hw rfl ⟨rfl, rfl, by simp [aOn, bI, c_1, c_2, c_3, c_4]⟩ (Nat.le_refl _) (Nat.le_refl _) dX5_isOnMap_25
        · refine lv_iconst (v := 1) hx hb dX5_isOnMap_20 (by decide) ?_
          refine lv_goto (tgt := 25) hx hb dX5_isOnMap_21 (by decide) ?_
          exact f_zret X hw rfl ⟨rfl, rfl, by simp [aOn, bI, c_1, c_2, c_3, c_4]⟩ (Nat.le_refl _) (Nat.le_refl _) dX5_isOnMap_25
set_option maxHeartbeats 4000000 in
set_option maxRecDepth 100000 in
theorem c_cellAt (l : Launch) (g : fG) (ad : Nat → Nat) (M : fM) (x y : Int32) : fCi l g yX5_cellAt cX5_cellAt 2 ((some .int)) 0 0 0 0 ad M [.int x, .int y] (fDi ad M (x + 14 * y)) := by
  refine f_body (own := RX5) (by decide +kernel) rfl (Nat.le_of_ble_eq_true rfl) ?_
  intro p e s m args below meth c ls X hw hin hl
  have hx := X.1
  have hb := X.2.1
  have hl : lv_has ls 2 [(0, .int x), (1, .int y)] := hl
  refine lv_iload_n hx hb dX5_cellAt_0 rfl (lv_at hl 0 rfl) ?_
  refine lv_bipush (v := 14) hx hb dX5_cellAt_1 (by decide) ?_
  refine lv_iload_n hx hb dX5_cellAt_3 rfl (lv_at hl 1 rfl) ?_
  refine lv_imul hx hb dX5_cellAt_4 ?_
  refine lv_iadd hx hb dX5_cellAt_5 ?_
  exact f_iret X hw ⟨rfl, rfl, rfl⟩ (Nat.le_refl _) (Nat.le_refl _) dX5_cellAt_6
set_option maxHeartbeats 4000000 in
set_option maxRecDepth 100000 in
theorem c_distance (l : Launch) (g : fG) (ad : Nat → Nat) (M : fM) (a b : Int32) : fCi l g yX5_distance cX5_distance 2 ((some .int)) 1 14 0 0 ad M [.int a, .int b] (fDi ad M (aDist a b)) := by
  refine f_body (own := RX5) (by decide +kernel) rfl (Nat.le_of_ble_eq_true rfl) ?_
  intro p e s m args below meth c ls X hw hin hl
  have hx := X.1
  have hb := X.2.1
  have hl : lv_has ls 2 [(0, .int a), (1, .int b)] := hl
  refine lv_iload_n hx hb dX5_distance_0 rfl (lv_at hl 0 rfl) ?_
  refine lv_bipush (v := 14) hx hb dX5_distance_1 (by decide) ?_
  refine lv_irem hx hb dX5_distance_3 (by decide) ?_
  refine lv_iload_n hx hb dX5_distance_4 rfl (lv_at hl 1 rfl) ?_
  refine lv_bipush (v := 14) hx hb dX5_distance_5 (by decide) ?_
  refine lv_irem hx hb dX5_distance_7 (by decide) ?_
  refine lv_isub hx hb dX5_distance_8 ?_
  refine va_mabs hx hb (X.2.2.1.trans hl.1.symm) X.2.2.2.1 (X.2.2.2.2.1 _ wq381) (X.2.2.2.2.1 _ wq382) (X.2.2.2.2.1 _ wq18) (X.2.2.2.2.1 _ wq383) (Nat.le_of_ble_eq_true rfl) (Nat.le_of_ble_eq_true rfl) (Nat.zero_le _) (Nat.zero_le _) dX5_distance_9 ?_
  refine lv_iload_n hx hb dX5_distance_12 rfl (lv_at hl 0 rfl) ?_
  refine lv_bipush (v := 14) hx hb dX5_distance_13 (by decide) ?_
  refine lv_idiv hx hb dX5_distance_15 (by decide) ?_
  refine lv_iload_n hx hb dX5_distance_16 rfl (lv_at hl 1 rfl) ?_
  refine lv_bipush (v := 14) hx hb dX5_distance_17 (by decide) ?_
  refine lv_idiv hx hb dX5_distance_19 (by decide) ?_
  refine lv_isub hx hb dX5_distance_20 ?_
  refine va_mabs hx hb (X.2.2.1.trans hl.1.symm) X.2.2.2.1 (X.2.2.2.2.1 _ wq381) (X.2.2.2.2.1 _ wq382) (X.2.2.2.2.1 _ wq18) (X.2.2.2.2.1 _ wq383) (Nat.le_of_ble_eq_true rfl) (Nat.le_of_ble_eq_true rfl) (Nat.zero_le _) (Nat.zero_le _) dX5_distance_21 ?_
  refine lv_iadd hx hb dX5_distance_24 ?_
  exact f_iret X hw ⟨rfl, rfl, rfl⟩ (Nat.le_refl _) (Nat.le_refl _) dX5_distance_25
set_option maxHeartbeats 4000000 in
set_option maxRecDepth 100000 in
theorem c_areNear (l : Launch) (g : fG) (ad : Nat → Nat) (M : fM) (a b : Int32) : fCi l g yX5_areNear cX5_areNear 4 ((some .boolean)) 0 0 0 0 ad M [.int a, .int b] (fDi ad M (bI (aNear a b))) := by
  refine f_body (own := RX5) (by decide +kernel) rfl (Nat.le_of_ble_eq_true rfl) ?_
  intro p e s m args below meth c ls X hw hin hl
  have hx := X.1
  have hb := X.2.1
  have hl : lv_has ls 4 [(0, .int a), (1, .int b)] := hl
  refine lv_iload_n hx hb dX5_areNear_0 rfl (lv_at hl 0 rfl) ?_
  refine lv_bipush (v := 14) hx hb dX5_areNear_1 (by decide) ?_
  refine lv_irem hx hb dX5_areNear_3 (by decide) ?_
  refine lv_iload_n hx hb dX5_areNear_4 rfl (lv_at hl 1 rfl) ?_
  refine lv_bipush (v := 14) hx hb dX5_areNear_5 (by decide) ?_
  refine lv_irem hx hb dX5_areNear_7 (by decide) ?_
  refine lv_isub hx hb dX5_areNear_8 ?_
  refine lv_istore_n (lv' := [(2, .int ((a - a / 14 * 14) - (b - b / 14 * 14))), (0, .int a), (1, .int b)]) hx hb dX5_areNear_9 rfl hl (by decide) rfl (fun ls hl => ?_)
  refine lv_iload_n hx hb dX5_areNear_10 rfl (lv_at hl 1 rfl) ?_
  refine lv_bipush (v := 14) hx hb dX5_areNear_11 (by decide) ?_
  refine lv_idiv hx hb dX5_areNear_13 (by decide) ?_
  refine lv_iload_n hx hb dX5_areNear_14 rfl (lv_at hl 2 rfl) ?_
  refine lv_bipush (v := 14) hx hb dX5_areNear_15 (by decide) ?_
  refine lv_idiv hx hb dX5_areNear_17 (by decide) ?_
  refine lv_isub hx hb dX5_areNear_18 ?_
  refine lv_istore_n (lv' := [(3, .int ((a / 14) - (b / 14))), (2, .int ((a - a / 14 * 14) - (b - b / 14 * 14))), (0, .int a), (1, .int b)]) hx hb dX5_areNear_19 rfl hl (by decide) rfl (fun ls hl => ?_)
  refine lv_iload_n hx hb dX5_areNear_20 rfl (lv_at hl 2 rfl) ?_
  refine lv_iload_n hx hb dX5_areNear_21 rfl (lv_at hl 3 rfl) ?_
  refine lv_icmp_eq (tgt := 43) hx hb dX5_areNear_22 (by decide) (fun c_1 => ?_) (fun c_1 => ?_)
  · refine lv_iconst (v := 0) hx hb dX5_areNear_43 (by decide) ?_
    exact f_zret X hw rfl ⟨rfl, rfl, by simp [aNear, bI, iMod, c_1]⟩ (Nat.le_refl _) (Nat.le_refl _) dX5_areNear_44
  · refine lv_iload_n hx hb dX5_areNear_25 rfl (lv_at hl 1 rfl) ?_
    refine lv_iload_n hx hb dX5_areNear_26 rfl (lv_at hl 1 rfl) ?_
    refine lv_imul hx hb dX5_areNear_27 ?_
    refine lv_iconst (v := 1) hx hb dX5_areNear_28 (by decide) ?_
    refine lv_icmp_gt (tgt := 43) hx hb dX5_areNear_29 (by decide) (fun c_2 => ?_) (fun c_2 => ?_)
    · refine lv_iconst (v := 0) hx hb dX5_areNear_43 (by decide) ?_
      exact f_zret X hw rfl ⟨rfl, rfl, by simp [aNear, bI, iMod, c_1, c_2]⟩ (Nat.le_refl _) (Nat.le_refl _) dX5_areNear_44
    · refine lv_iload_n hx hb dX5_areNear_32 rfl (lv_at hl 0 rfl) ?_
      refine lv_iload_n hx hb dX5_areNear_33 rfl (lv_at hl 0 rfl) ?_
      refine lv_imul hx hb dX5_areNear_34 ?_
      refine lv_iconst (v := 1) hx hb dX5_areNear_35 (by decide) ?_
      refine lv_icmp_gt (tgt := 43) hx hb dX5_areNear_36 (by decide) (fun c_3 => ?_) (fun c_3 => ?_)
      · refine lv_iconst (v := 0) hx hb dX5_areNear_43 (by decide) ?_
        exact f_zret X hw rfl ⟨rfl, rfl, by simp [aNear, bI, iMod, c_1, c_2, c_3]⟩ (Nat.le_refl _) (Nat.le_refl _) dX5_areNear_44
      · refine lv_iconst (v := 1) hx hb dX5_areNear_39 (by decide) ?_
        refine lv_goto (tgt := 44) hx hb dX5_areNear_40 (by decide) ?_
        exact f_zret X hw rfl ⟨rfl, rfl, by simp [aNear, bI, iMod, c_1, c_2, c_3]⟩ (Nat.le_refl _) (Nat.le_refl _) dX5_areNear_44
set_option maxHeartbeats 4000000 in
set_option maxRecDepth 100000 in
theorem c_housesThatAre (l : Launch) (g : fG) (ad : Nat → Nat) (M : fM) {b : Nat} {T : fTn} (hT : isTown g ad M b T) (p0 : Int32) : fCi l g yX4_housesThatAre cX4_housesThatAre 4 ((some .int)) 3 64 0 0 ad M [.ref (ad b), .int p0] (fDi ad M (cntH (tH T) p0 (tHn T))) := by
  refine f_body (own := RX4) (by decide +kernel) rfl (Nat.le_of_ble_eq_true rfl) ?_
  intro p e s m args below meth c ls X hw hin hl
  have hx := X.1
  have hb := X.2.1
  have hl : lv_has ls 4 [(0, .ref (ad b)), (1, .int p0)] := hl
  obtain ⟨hT0, hTh, hTp, hTe, hHs, hPs, hEs, hn1, hn2, hn3, hA⟩ := hT
  refine lv_iconst (v := 0) hx hb dX4_housesThatAre_0 (by decide) ?_
  refine lv_istore_n (lv' := [(2, .int 0), (0, .ref (ad b)), (1, .int p0)]) hx hb dX4_housesThatAre_1 rfl hl (by decide) rfl (fun ls hl => ?_)
  refine lv_iconst (v := 0) hx hb dX4_housesThatAre_2 (by decide) ?_
  refine lv_istore_n (lv' := [(3, .int 0), (2, .int 0), (0, .ref (ad b)), (1, .int p0)]) hx hb dX4_housesThatAre_3 rfl hl (by decide) rfl (fun ls hl => ?_)
  have loop4 : ∀ (n4 k : Nat), k ≤ tHn T → tHn T < k + n4 → ∀ (ls : Array Slot) (H : Heap) (locs : List Loc), fw g ad M s H locs → lv_has ls 4 [(0, .ref (ad b)), (1, .int p0), (2, .int (cntH (tH T) p0 k)), (3, .int (nI k))] → W p l e (fR 3 64 0 0) s m args below meth c H locs 0 0 (MQ below (fQi g (fDi ad M (cntH (tH T) p0 (tHn T)))) args s 0 0 (fA g)) (F0 m 4 ls []) := by
    intro n4
    induction n4 with
    | zero => intro k h1 h2; omega
    | succ n4 ih4 =>
      intro k hk_k hn_k ls H locs hw hl
      refine lv_iload_n hx hb dX4_housesThatAre_4 rfl (lv_at hl 3 rfl) ?_
      refine lv_aload_n hx hb dX4_housesThatAre_5 rfl (lv_at hl 0 rfl) ?_
      refine f_get X hw hT0 fc5 1 (by decide) wq81 rfl (v := .ref (ad (b + 1))) rfl dX4_housesThatAre_6 ?_
      refine fk_di (fcVe X hw (c_size l g ad M hTh) (fList_obj hTh) rfl wq114 kVJx4a65c_size_8abf5 ⟨(Nat.le_of_ble_eq_true rfl), (Nat.le_of_ble_eq_true rfl)⟩ rfl hl.1 rfl (Nat.le_of_ble_eq_true rfl) dX4_housesThatAre_9 ⟨Nat.le_refl _, Nat.le_refl _⟩) hw (fun H locs hw => ?_)
      refine lv_icmp_ge (tgt := 42) hx hb dX4_housesThatAre_12 (by decide) (fun c_1 => ?_) (fun c_1 => ?_)
      · have c_1 := nI_le' c_1 (by omega) (by omega)
        refine lv_iload_n hx hb dX4_housesThatAre_42 rfl (lv_at hl 2 rfl) ?_
        exact f_iret X hw ⟨rfl, rfl, by rw [show k = tHn T by omega]⟩ (Nat.le_refl _) (Nat.le_refl _) dX4_housesThatAre_43
      · have c_1 := nI_nle' c_1 (by omega) (by omega)
        refine lv_aload_n hx hb dX4_housesThatAre_15 rfl (lv_at hl 0 rfl) ?_
        refine f_get X hw hT0 fc5 1 (by decide) wq81 rfl (v := .ref (ad (b + 1))) rfl dX4_housesThatAre_16 ?_
        refine lv_iload_n hx hb dX4_housesThatAre_19 rfl (lv_at hl 3 rfl) ?_
        refine fk_dr (fcVe X hw (c_get l g ad M hTh (by omega)) (fList_obj hTh) rfl wq211 kVJx4a65c_get_915e3 ⟨(Nat.le_of_ble_eq_true rfl), (Nat.le_of_ble_eq_true rfl)⟩ rfl hl.1 rfl (Nat.le_of_ble_eq_true rfl) dX4_housesThatAre_20 ⟨Nat.le_refl _, Nat.le_refl _⟩) hw (fun H locs hw => ?_)
        refine f_cast X hw (hHs k (by omega)) fc3 wq118 dX4_housesThatAre_23 ?_
        refine f_getN X hw (hHs k (by omega)) fc3 3 (by decide) wn132 rfl (v := .int ((tH T k) 3)) rfl dX4_housesThatAre_26 ?_
        refine lv_iload_n hx hb dX4_housesThatAre_29 rfl (lv_at hl 1 rfl) ?_
        refine lv_icmp_ne (tgt := 36) hx hb dX4_housesThatAre_30 (by decide) (fun c_2 => ?_) (fun c_2 => ?_)
        · refine lv_iinc (v := nI (k + 1)) (lv' := [(3, .int (nI (k + 1))), (0, .ref (ad b)), (1, .int p0), (2, .int (cntH (tH T) p0 k))]) hx hb dX4_housesThatAre_36 hl (k := 3) rfl (nI_1 k) (by decide) rfl (fun ls hl => ?_)
          refine lv_goto (tgt := 4) hx hb dX4_housesThatAre_39 (by decide) ?_
          exact ih4 (k + 1) (by omega) (by omega) ls _ _ hw (by rw [show (cntH (tH T) p0 (k + 1)) = (cntH (tH T) p0 k) from (by rw [cntH]; simp only [c_1, c_2, if_true, if_false])]; exact lv_sub hl [1, 2, 3, 0] rfl)
        · refine lv_iinc (v := (cntH (tH T) p0 k) + 1) (lv' := [(2, .int ((cntH (tH T) p0 k) + 1)), (0, .ref (ad b)), (1, .int p0), (3, .int (nI k))]) hx hb dX4_housesThatAre_33 hl (k := 2) rfl rfl (by decide) rfl (fun ls hl => ?_)
          refine lv_iinc (v := nI (k + 1)) (lv' := [(3, .int (nI (k + 1))), (2, .int ((cntH (tH T) p0 k) + 1)), (0, .ref (ad b)), (1, .int p0)]) hx hb dX4_housesThatAre_36 hl (k := 3) rfl (nI_1 k) (by decide) rfl (fun ls hl => ?_)
          refine lv_goto (tgt := 4) hx hb dX4_housesThatAre_39 (by decide) ?_
          exact ih4 (k + 1) (by omega) (by omega) ls _ _ hw (by rw [show (cntH (tH T) p0 (k + 1)) = ((cntH (tH T) p0 k) + 1) from (by rw [cntH]; simp only [c_1, c_2, if_true, if_false])]; exact lv_sub hl [2, 3, 1, 0] rfl)
  exact loop4 (tHn T + 1) 0 (by omega) (by omega) ls _ _ hw (lv_sub hl [2, 3, 1, 0] rfl)
end
